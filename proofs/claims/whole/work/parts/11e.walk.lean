def fX11_appeal (M : xM) (k0 : Nat) (a1 : Int32) (a2 : Int32) (a3 : Int32) : Option (Int32 × xM) := x_b (fX11_isJudgment M k0 a1) fun v_3 M_1 => if v_3 = 0 then (some ((-1000000001 : Int32), M_1)) else (x_b (fX11_in M_1 a2 (0 : Int32) (1 : Int32)) fun v_7 M_5 => if v_7 = 0 then (some ((-1000000001 : Int32), M_5)) else (x_l (fun (M_11 : xM) (z_9 : Int32) => x_b (fX11_in M_11 a3 (0 : Int32) z_9) fun v_14 M_12 => if v_14 = 0 then (some ((-1000000001 : Int32), M_12)) else (x_l ((792 : Int32) + ((10 : Int32) * a1)) fun x4_16 => x_g (9 : Int32) (xn 1 (xr 1 k0 0)) (x_b (fX11_isLate M_12 k0 a1 (M_12 (xr 1 k0 0) (9 : Int32).toNatClampNeg)) fun v_21 M_19 => if v_21 = 0 then (x_g (x4_16 + (8 : Int32)) (xn 1 (xr 1 k0 0)) (if (((M_19 (xr 1 k0 0) (x4_16 + (8 : Int32)).toNatClampNeg) >>> (a2 &&& 31)) &&& (1 : Int32)) = (1 : Int32) then (some ((-1000000002 : Int32), M_19)) else (x_b (fX11_isTurned M_19 k0 a1) fun v_27 M_25 => if v_27 = 0 then (x_g ((x4_16 + (2 : Int32)) + a2) (xn 1 (xr 1 k0 0)) (x_l (M_25 (xr 1 k0 0) ((x4_16 + (2 : Int32)) + a2).toNatClampNeg) fun x5_30 => x_g ((x4_16 + (2 : Int32)) + a2) (xn 1 (xr 1 k0 0)) (x_l (x_up M_25 (xr 1 k0 0) ((x4_16 + (2 : Int32)) + a2).toNatClampNeg a3) fun M_32 => x_g (x4_16 + (8 : Int32)) (xn 1 (xr 1 k0 0)) (x_g (x4_16 + (8 : Int32)) (xn 1 (xr 1 k0 0)) (x_l (x_up M_32 (xr 1 k0 0) (x4_16 + (8 : Int32)).toNatClampNeg ((M_32 (xr 1 k0 0) (x4_16 + (8 : Int32)).toNatClampNeg) ||| ((1 : Int32) <<< (a2 &&& 31)))) fun M_35 => some (x5_30, M_35)))))) else (some ((-1000000002 : Int32), M_25))))) else (some ((-1000000002 : Int32), M_19))))) fun k39_10 => if a2 = 0 then (x_g (4 : Int32) (xn 1 (xr 1 k0 0)) (k39_10 M_5 (M_5 (xr 1 k0 0) (4 : Int32).toNatClampNeg))) else (x_g (8 : Int32) (xn 1 (xr 1 k0 0)) (k39_10 M_5 (M_5 (xr 1 k0 0) (8 : Int32).toNatClampNeg)))))
set_option maxRecDepth 100000 in
set_option maxHeartbeats 4000000 in
theorem mX11_appeal (l : Launch) (g : xG) {k0 : Nat} {a1 : Int32} {a2 : Int32} {a3 : Int32} {r : Int32} {M' : xM} (h0 : x_is 1 k0 11) {M : xM} (hf : fX11_appeal M k0 a1 a2 a3 = some (r, M')) : x_cI l g 1 yX11_appeal cX11_appeal 6 .int 2 43 [.ref (g.2.2.1 k0), .int a1, .int a2, .int a3] M (fun v N => v = r ∧ N = M') := by
  refine x_stI RX11 (by decide) rfl (Nat.le_of_ble_eq_true rfl) ?_
  intro p e s m args below meth c Q ls C hw ret hl
  obtain ⟨hx, hb, hml, hown, hB, -⟩ := id C
  have hl : lv_has ls 6 [(0, .ref (g.2.2.1 k0)), (1, .int a1), (2, .int a2), (3, .int a3)] := hl
  unfold fX11_appeal at hf
  refine lv_aload_n hx hb dX11_appeal_0 rfl (lv_at hl 0 rfl) ?_
  refine lv_iload_n hx hb dX11_appeal_1 rfl (lv_at hl 1 rfl) ?_
  obtain ⟨tv_3, tM_1, c_2, hf⟩ := x_bE hf
  refine x_vI C hw hl.1 [.int a1] [] (mX11_isJudgment l g h0 c_2) lk_X11_221 h0 (by decide) rfl (by decide) rfl (Nat.le_of_ble_eq_true rfl) ⟨Nat.zero_le _, Nat.zero_le _⟩ dX11_appeal_2 (fun v_3 M_1 H locs hN hw => ?_)
  obtain ⟨rfl, rfl⟩ := hN
  refine lv_if_eq (tgt := 45) hx hb dX11_appeal_5 (by decide) (fun q_4 => ?_) (fun q_4 => ?_)
  · have hf := x_iP hf q_4
    refine lv_ldc hx hb hown (hB _ mk_X11_60) dX11_appeal_45 ?_
    exact ret hf dX11_appeal_47 hw
  · have hf := x_iN hf q_4
    refine lv_iload_n hx hb dX11_appeal_8 rfl (lv_at hl 2 rfl) ?_
    refine lv_iconst (v := (0 : Int32)) hx hb dX11_appeal_9 (by decide) ?_
    refine lv_iconst (v := (1 : Int32)) hx hb dX11_appeal_10 (by decide) ?_
    obtain ⟨tv_7, tM_5, c_6, hf⟩ := x_bE hf
    refine x_sI C hw hl.1 [.int a2, .int (0 : Int32), .int (1 : Int32)] [] (mX11_in l g c_6) lk_X11_56 (by decide) rfl (Nat.le_of_ble_eq_true rfl) ⟨Nat.zero_le _, Nat.zero_le _⟩ dX11_appeal_11 (fun v_7 M_5 H locs hN hw => ?_)
    obtain ⟨rfl, rfl⟩ := hN
    refine lv_if_eq (tgt := 45) hx hb dX11_appeal_14 (by decide) (fun q_8 => ?_) (fun q_8 => ?_)
    · have hf := x_iP hf q_8
      refine lv_ldc hx hb hown (hB _ mk_X11_60) dX11_appeal_45 ?_
      exact ret hf dX11_appeal_47 hw
    · have hf := x_iN hf q_8
      refine lv_iload_n hx hb dX11_appeal_17 rfl (lv_at hl 3 rfl) ?_
      refine lv_iconst (v := (0 : Int32)) hx hb dX11_appeal_18 (by decide) ?_
      refine lv_iload_n hx hb dX11_appeal_19 rfl (lv_at hl 2 rfl) ?_
      obtain ⟨k39_10, ek39_10, hf⟩ := x_jE hf
      have hk39_10 : ∀ (H : Heap) (locs : List Loc) (M_11 : xM) (z_9 : Int32) (ls : Array Slot) , lv_has ls 6 [(0, .ref (g.2.2.1 k0)), (1, .int a1), (2, .int a2), (3, .int a3)] → x_w g 1 s H locs M_11 → k39_10 M_11 z_9 = some (r, M') → W p l e (x_rm 2 43) s m args below meth c H locs 0 0 Q (F0 m 39 ls [.int z_9, .int (0 : Int32), .int a3]) := by
        intro H locs M_11 z_9 ls  hl hw hf
        rw [ek39_10] at hf
        obtain ⟨tv_14, tM_12, c_13, hf⟩ := x_bE hf
        refine x_sI C hw hl.1 [.int a3, .int (0 : Int32), .int z_9] [] (mX11_in l g c_13) lk_X11_56 (by decide) rfl (Nat.le_of_ble_eq_true rfl) ⟨Nat.zero_le _, Nat.zero_le _⟩ dX11_appeal_39 (fun v_14 M_12 H locs hN hw => ?_)
        obtain ⟨rfl, rfl⟩ := hN
        refine lv_if_ne (tgt := 48) hx hb dX11_appeal_42 (by decide) (fun q_15 => ?_) (fun q_15 => ?_)
        · have hf := x_iN hf q_15
          refine lv_sipush (v := (792 : Int32)) hx hb dX11_appeal_48 (by decide) ?_
          refine lv_bipush (v := (10 : Int32)) hx hb dX11_appeal_51 (by decide) ?_
          refine lv_iload_n hx hb dX11_appeal_53 rfl (lv_at hl 1 rfl) ?_
          refine lv_imul hx hb dX11_appeal_54 ?_
          refine lv_iadd hx hb dX11_appeal_55 ?_
          refine lv_topi (fun x4_16 ex4_16 => ?_)
          have hf := x_lE ex4_16 hf
          refine lv_istore (lv' := [(4, .int x4_16), (0, .ref (g.2.2.1 k0)), (1, .int a1), (2, .int a2), (3, .int a3)]) hx hb dX11_appeal_56 hl (by decide) rfl (fun ls hl => ?_)
          refine lv_aload_n hx hb dX11_appeal_58 rfl (lv_at hl 1 rfl) ?_
          refine lv_iload_n hx hb dX11_appeal_59 rfl (lv_at hl 2 rfl) ?_
          refine lv_aload_n hx hb dX11_appeal_60 rfl (lv_at hl 1 rfl) ?_
          refine fg_X11_7 C hw h0 dX11_appeal_61 ?_
          have h_17 : x_is 1 (xr 1 k0 0) 12 := x_tm h0 (by decide) rfl
          refine lv_bipush (v := (9 : Int32)) hx hb dX11_appeal_64 (by decide) ?_
          obtain ⟨q_18, hf⟩ := x_gE hf
          refine x_ald C hw h_17 q_18 dX11_appeal_66 ?_
          obtain ⟨tv_21, tM_19, c_20, hf⟩ := x_bE hf
          refine x_vI C hw hl.1 [.int a1, .int (M_12 (xr 1 k0 0) (9 : Int32).toNatClampNeg)] [] (mX11_isLate l g h0 c_20) lk_X11_233 h0 (by decide) rfl (by decide) rfl (Nat.le_of_ble_eq_true rfl) ⟨Nat.zero_le _, Nat.zero_le _⟩ dX11_appeal_67 (fun v_21 M_19 H locs hN hw => ?_)
          obtain ⟨rfl, rfl⟩ := hN
          refine lv_if_ne (tgt := 99) hx hb dX11_appeal_70 (by decide) (fun q_22 => ?_) (fun q_22 => ?_)
          · have hf := x_iN hf q_22
            refine lv_ldc hx hb hown (hB _ mk_X11_69) dX11_appeal_99 ?_
            exact ret hf dX11_appeal_101 hw
          · have hf := x_iP hf q_22
            refine lv_aload_n hx hb dX11_appeal_73 rfl (lv_at hl 1 rfl) ?_
            refine fg_X11_7 C hw h0 dX11_appeal_74 ?_
            refine lv_iload hx hb dX11_appeal_77 (lv_at hl 0 rfl) ?_
            refine lv_bipush (v := (8 : Int32)) hx hb dX11_appeal_79 (by decide) ?_
            refine lv_iadd hx hb dX11_appeal_81 ?_
            obtain ⟨q_23, hf⟩ := x_gE hf
            refine x_ald C hw h_17 q_23 dX11_appeal_82 ?_
            refine lv_iload_n hx hb dX11_appeal_83 rfl (lv_at hl 3 rfl) ?_
            refine lv_ishr hx hb dX11_appeal_84 ?_
            refine lv_iconst (v := (1 : Int32)) hx hb dX11_appeal_85 (by decide) ?_
            refine lv_iand hx hb dX11_appeal_86 ?_
            refine lv_iconst (v := (1 : Int32)) hx hb dX11_appeal_87 (by decide) ?_
            refine lv_icmp_eq (tgt := 99) hx hb dX11_appeal_88 (by decide) (fun q_24 => ?_) (fun q_24 => ?_)
            · have hf := x_iP hf q_24
              refine lv_ldc hx hb hown (hB _ mk_X11_69) dX11_appeal_99 ?_
              exact ret hf dX11_appeal_101 hw
            · have hf := x_iN hf q_24
              refine lv_aload_n hx hb dX11_appeal_91 rfl (lv_at hl 1 rfl) ?_
              refine lv_iload_n hx hb dX11_appeal_92 rfl (lv_at hl 2 rfl) ?_
              obtain ⟨tv_27, tM_25, c_26, hf⟩ := x_bE hf
              refine x_vI C hw hl.1 [.int a1] [] (mX11_isTurned l g h0 c_26) lk_X11_236 h0 (by decide) rfl (by decide) rfl (Nat.le_of_ble_eq_true rfl) ⟨Nat.zero_le _, Nat.zero_le _⟩ dX11_appeal_93 (fun v_27 M_25 H locs hN hw => ?_)
              obtain ⟨rfl, rfl⟩ := hN
              refine lv_if_eq (tgt := 102) hx hb dX11_appeal_96 (by decide) (fun q_28 => ?_) (fun q_28 => ?_)
              · have hf := x_iP hf q_28
                refine lv_aload_n hx hb dX11_appeal_102 rfl (lv_at hl 1 rfl) ?_
                refine fg_X11_7 C hw h0 dX11_appeal_103 ?_
                refine lv_iload hx hb dX11_appeal_106 (lv_at hl 0 rfl) ?_
                refine lv_iconst (v := (2 : Int32)) hx hb dX11_appeal_108 (by decide) ?_
                refine lv_iadd hx hb dX11_appeal_109 ?_
                refine lv_iload_n hx hb dX11_appeal_110 rfl (lv_at hl 3 rfl) ?_
                refine lv_iadd hx hb dX11_appeal_111 ?_
                obtain ⟨q_29, hf⟩ := x_gE hf
                refine x_ald C hw h_17 q_29 dX11_appeal_112 ?_
                refine lv_topi (fun x5_30 ex5_30 => ?_)
                have hf := x_lE ex5_30 hf
                refine lv_istore (lv' := [(5, .int x5_30), (4, .int x4_16), (0, .ref (g.2.2.1 k0)), (1, .int a1), (2, .int a2), (3, .int a3)]) hx hb dX11_appeal_113 hl (by decide) rfl (fun ls hl => ?_)
                refine lv_aload_n hx hb dX11_appeal_115 rfl (lv_at hl 2 rfl) ?_
                refine fg_X11_7 C hw h0 dX11_appeal_116 ?_
                refine lv_iload hx hb dX11_appeal_119 (lv_at hl 1 rfl) ?_
                refine lv_iconst (v := (2 : Int32)) hx hb dX11_appeal_121 (by decide) ?_
                refine lv_iadd hx hb dX11_appeal_122 ?_
                refine lv_iload_n hx hb dX11_appeal_123 rfl (lv_at hl 4 rfl) ?_
                refine lv_iadd hx hb dX11_appeal_124 ?_
                refine lv_iload_n hx hb dX11_appeal_125 rfl (lv_at hl 5 rfl) ?_
                obtain ⟨q_31, hf⟩ := x_gE hf
                refine x_ast C hw h_17 q_31 dX11_appeal_126 (fun H locs hw => ?_)
                obtain ⟨M_32, eM_32⟩ : ∃ z, z = (x_up M_25 (xr 1 k0 0) ((x4_16 + (2 : Int32)) + a2).toNatClampNeg a3) := ⟨_, rfl⟩
                rw [← eM_32] at hw
                have hf := x_lE eM_32 hf
                refine lv_aload_n hx hb dX11_appeal_127 rfl (lv_at hl 2 rfl) ?_
                refine fg_X11_7 C hw h0 dX11_appeal_128 ?_
                refine lv_iload hx hb dX11_appeal_131 (lv_at hl 1 rfl) ?_
                refine lv_bipush (v := (8 : Int32)) hx hb dX11_appeal_133 (by decide) ?_
                refine lv_iadd hx hb dX11_appeal_135 ?_
                refine lv_dup2_11 hx hb dX11_appeal_136 rfl rfl ?_
                obtain ⟨q_33, hf⟩ := x_gE hf
                refine x_ald C hw h_17 q_33 dX11_appeal_137 ?_
                refine lv_iconst (v := (1 : Int32)) hx hb dX11_appeal_138 (by decide) ?_
                refine lv_iload_n hx hb dX11_appeal_139 rfl (lv_at hl 4 rfl) ?_
                refine lv_ishl hx hb dX11_appeal_140 ?_
                refine lv_ior hx hb dX11_appeal_141 ?_
                obtain ⟨q_34, hf⟩ := x_gE hf
                refine x_ast C hw h_17 q_34 dX11_appeal_142 (fun H locs hw => ?_)
                obtain ⟨M_35, eM_35⟩ : ∃ z, z = (x_up M_32 (xr 1 k0 0) (x4_16 + (8 : Int32)).toNatClampNeg ((M_32 (xr 1 k0 0) (x4_16 + (8 : Int32)).toNatClampNeg) ||| ((1 : Int32) <<< (a2 &&& 31)))) := ⟨_, rfl⟩
                rw [← eM_35] at hw
                have hf := x_lE eM_35 hf
                refine lv_iload hx hb dX11_appeal_143 (lv_at hl 0 rfl) ?_
                exact ret hf dX11_appeal_145 hw
              · have hf := x_iN hf q_28
                refine lv_ldc hx hb hown (hB _ mk_X11_69) dX11_appeal_99 ?_
                exact ret hf dX11_appeal_101 hw
        · have hf := x_iP hf q_15
          refine lv_ldc hx hb hown (hB _ mk_X11_60) dX11_appeal_45 ?_
          exact ret hf dX11_appeal_47 hw
      refine lv_if_ne (tgt := 32) hx hb dX11_appeal_20 (by decide) (fun q_36 => ?_) (fun q_36 => ?_)
      · have hf := x_iN hf q_36
        refine lv_aload_n hx hb dX11_appeal_32 rfl (lv_at hl 0 rfl) ?_
        refine fg_X11_7 C hw h0 dX11_appeal_33 ?_
        have h_37 : x_is 1 (xr 1 k0 0) 12 := x_tm h0 (by decide) rfl
        refine lv_bipush (v := (8 : Int32)) hx hb dX11_appeal_36 (by decide) ?_
        obtain ⟨q_38, hf⟩ := x_gE hf
        refine x_ald C hw h_37 q_38 dX11_appeal_38 ?_
        exact hk39_10 _ _ _ _ _ (lv_sub hl [0, 1, 2, 3] rfl) hw hf
      · have hf := x_iP hf q_36
        refine lv_aload_n hx hb dX11_appeal_23 rfl (lv_at hl 0 rfl) ?_
        refine fg_X11_7 C hw h0 dX11_appeal_24 ?_
        have h_39 : x_is 1 (xr 1 k0 0) 12 := x_tm h0 (by decide) rfl
        refine lv_iconst (v := (4 : Int32)) hx hb dX11_appeal_27 (by decide) ?_
        obtain ⟨q_40, hf⟩ := x_gE hf
        refine x_ald C hw h_39 q_40 dX11_appeal_28 ?_
        refine lv_goto (tgt := 39) hx hb dX11_appeal_29 (by decide) ?_
        exact hk39_10 _ _ _ _ _ (lv_sub hl [0, 1, 2, 3] rfl) hw hf
def fX11_reopen (M : xM) (k0 : Nat) (a1 : Int32) : Option (Int32 × xM) := x_b (fX11_isJudgment M k0 a1) fun v_3 M_1 => if v_3 = 0 then (some ((-1000000001 : Int32), M_1)) else (x_g (10 : Int32) (xn 1 (xr 1 k0 0)) (x_b (fX11_isLate M_1 k0 a1 (M_1 (xr 1 k0 0) (10 : Int32).toNatClampNeg)) fun v_9 M_7 => if v_9 = 0 then (x_b (fX11_isTurned M_7 k0 a1) fun v_13 M_11 => if v_13 = 0 then (x_g (21 : Int32) (xn 1 (xr 1 k0 0)) (if (M_11 (xr 1 k0 0) (21 : Int32).toNatClampNeg) = 0 then (some ((-1000000002 : Int32), M_11)) else (x_l ((792 : Int32) + ((10 : Int32) * a1)) fun x2_17 => x_g x2_17 (xn 1 (xr 1 k0 0)) (x_g (x2_17 + (1 : Int32)) (xn 1 (xr 1 k0 0)) (x_g (0 : Int32) (xn 1 (xr 1 k0 0)) (x_b (fX11_sumOf M_11 k0 (M_11 (xr 1 k0 0) x2_17.toNatClampNeg) (M_11 (xr 1 k0 0) (x2_17 + (1 : Int32)).toNatClampNeg) (M_11 (xr 1 k0 0) (0 : Int32).toNatClampNeg)) fun v_23 M_21 => x_g (x2_17 + (3 : Int32)) (xn 1 (xr 1 k0 0)) (x_l (x_up M_21 (xr 1 k0 0) (x2_17 + (3 : Int32)).toNatClampNeg v_23) fun M_25 => x_g (x2_17 + (3 : Int32)) (xn 1 (xr 1 k0 0)) (some ((M_25 (xr 1 k0 0) (x2_17 + (3 : Int32)).toNatClampNeg), M_25))))))))) else (some ((-1000000002 : Int32), M_11))) else (some ((-1000000002 : Int32), M_7))))
set_option maxRecDepth 100000 in
set_option maxHeartbeats 4000000 in
theorem mX11_reopen (l : Launch) (g : xG) {k0 : Nat} {a1 : Int32} {r : Int32} {M' : xM} (h0 : x_is 1 k0 11) {M : xM} (hf : fX11_reopen M k0 a1 = some (r, M')) : x_cI l g 1 yX11_reopen cX11_reopen 3 .int 4 101 [.ref (g.2.2.1 k0), .int a1] M (fun v N => v = r ∧ N = M') := by
  refine x_stI RX11 (by decide) rfl (Nat.le_of_ble_eq_true rfl) ?_
  intro p e s m args below meth c Q ls C hw ret hl
  obtain ⟨hx, hb, hml, hown, hB, -⟩ := id C
  have hl : lv_has ls 3 [(0, .ref (g.2.2.1 k0)), (1, .int a1)] := hl
  unfold fX11_reopen at hf
  refine lv_aload_n hx hb dX11_reopen_0 rfl (lv_at hl 0 rfl) ?_
  refine lv_iload_n hx hb dX11_reopen_1 rfl (lv_at hl 1 rfl) ?_
  obtain ⟨tv_3, tM_1, c_2, hf⟩ := x_bE hf
  refine x_vI C hw hl.1 [.int a1] [] (mX11_isJudgment l g h0 c_2) lk_X11_221 h0 (by decide) rfl (by decide) rfl (Nat.le_of_ble_eq_true rfl) ⟨Nat.zero_le _, Nat.zero_le _⟩ dX11_reopen_2 (fun v_3 M_1 H locs hN hw => ?_)
  obtain ⟨rfl, rfl⟩ := hN
  refine lv_if_ne (tgt := 11) hx hb dX11_reopen_5 (by decide) (fun q_4 => ?_) (fun q_4 => ?_)
  · have hf := x_iN hf q_4
    refine lv_aload_n hx hb dX11_reopen_11 rfl (lv_at hl 0 rfl) ?_
    refine lv_iload_n hx hb dX11_reopen_12 rfl (lv_at hl 1 rfl) ?_
    refine lv_aload_n hx hb dX11_reopen_13 rfl (lv_at hl 0 rfl) ?_
    refine fg_X11_7 C hw h0 dX11_reopen_14 ?_
    have h_5 : x_is 1 (xr 1 k0 0) 12 := x_tm h0 (by decide) rfl
    refine lv_bipush (v := (10 : Int32)) hx hb dX11_reopen_17 (by decide) ?_
    obtain ⟨q_6, hf⟩ := x_gE hf
    refine x_ald C hw h_5 q_6 dX11_reopen_19 ?_
    obtain ⟨tv_9, tM_7, c_8, hf⟩ := x_bE hf
    refine x_vI C hw hl.1 [.int a1, .int (M_1 (xr 1 k0 0) (10 : Int32).toNatClampNeg)] [] (mX11_isLate l g h0 c_8) lk_X11_233 h0 (by decide) rfl (by decide) rfl (Nat.le_of_ble_eq_true rfl) ⟨Nat.zero_le _, Nat.zero_le _⟩ dX11_reopen_20 (fun v_9 M_7 H locs hN hw => ?_)
    obtain ⟨rfl, rfl⟩ := hN
    refine lv_if_ne (tgt := 44) hx hb dX11_reopen_23 (by decide) (fun q_10 => ?_) (fun q_10 => ?_)
    · have hf := x_iN hf q_10
      refine lv_ldc hx hb hown (hB _ mk_X11_69) dX11_reopen_44 ?_
      exact ret hf dX11_reopen_46 hw
    · have hf := x_iP hf q_10
      refine lv_aload_n hx hb dX11_reopen_26 rfl (lv_at hl 0 rfl) ?_
      refine lv_iload_n hx hb dX11_reopen_27 rfl (lv_at hl 1 rfl) ?_
      obtain ⟨tv_13, tM_11, c_12, hf⟩ := x_bE hf
      refine x_vI C hw hl.1 [.int a1] [] (mX11_isTurned l g h0 c_12) lk_X11_236 h0 (by decide) rfl (by decide) rfl (Nat.le_of_ble_eq_true rfl) ⟨Nat.zero_le _, Nat.zero_le _⟩ dX11_reopen_28 (fun v_13 M_11 H locs hN hw => ?_)
      obtain ⟨rfl, rfl⟩ := hN
      refine lv_if_ne (tgt := 44) hx hb dX11_reopen_31 (by decide) (fun q_14 => ?_) (fun q_14 => ?_)
      · have hf := x_iN hf q_14
        refine lv_ldc hx hb hown (hB _ mk_X11_69) dX11_reopen_44 ?_
        exact ret hf dX11_reopen_46 hw
      · have hf := x_iP hf q_14
        refine lv_aload_n hx hb dX11_reopen_34 rfl (lv_at hl 0 rfl) ?_
        refine fg_X11_7 C hw h0 dX11_reopen_35 ?_
        refine lv_bipush (v := (21 : Int32)) hx hb dX11_reopen_38 (by decide) ?_
        obtain ⟨q_15, hf⟩ := x_gE hf
        refine x_ald C hw h_5 q_15 dX11_reopen_40 ?_
        refine lv_if_ne (tgt := 47) hx hb dX11_reopen_41 (by decide) (fun q_16 => ?_) (fun q_16 => ?_)
        · have hf := x_iN hf q_16
          refine lv_sipush (v := (792 : Int32)) hx hb dX11_reopen_47 (by decide) ?_
          refine lv_bipush (v := (10 : Int32)) hx hb dX11_reopen_50 (by decide) ?_
          refine lv_iload_n hx hb dX11_reopen_52 rfl (lv_at hl 1 rfl) ?_
          refine lv_imul hx hb dX11_reopen_53 ?_
          refine lv_iadd hx hb dX11_reopen_54 ?_
          refine lv_topi (fun x2_17 ex2_17 => ?_)
          have hf := x_lE ex2_17 hf
          refine lv_istore_n (lv' := [(2, .int x2_17), (0, .ref (g.2.2.1 k0)), (1, .int a1)]) hx hb dX11_reopen_55 rfl hl (by decide) rfl (fun ls hl => ?_)
          refine lv_aload_n hx hb dX11_reopen_56 rfl (lv_at hl 1 rfl) ?_
          refine fg_X11_7 C hw h0 dX11_reopen_57 ?_
          refine lv_iload_n hx hb dX11_reopen_60 rfl (lv_at hl 0 rfl) ?_
          refine lv_iconst (v := (3 : Int32)) hx hb dX11_reopen_61 (by decide) ?_
          refine lv_iadd hx hb dX11_reopen_62 ?_
          refine lv_aload_n hx hb dX11_reopen_63 rfl (lv_at hl 1 rfl) ?_
          refine lv_aload_n hx hb dX11_reopen_64 rfl (lv_at hl 1 rfl) ?_
          refine fg_X11_7 C hw h0 dX11_reopen_65 ?_
          refine lv_iload_n hx hb dX11_reopen_68 rfl (lv_at hl 0 rfl) ?_
          obtain ⟨q_18, hf⟩ := x_gE hf
          refine x_ald C hw h_5 q_18 dX11_reopen_69 ?_
          refine lv_aload_n hx hb dX11_reopen_70 rfl (lv_at hl 1 rfl) ?_
          refine fg_X11_7 C hw h0 dX11_reopen_71 ?_
          refine lv_iload_n hx hb dX11_reopen_74 rfl (lv_at hl 0 rfl) ?_
          refine lv_iconst (v := (1 : Int32)) hx hb dX11_reopen_75 (by decide) ?_
          refine lv_iadd hx hb dX11_reopen_76 ?_
          obtain ⟨q_19, hf⟩ := x_gE hf
          refine x_ald C hw h_5 q_19 dX11_reopen_77 ?_
          refine lv_aload_n hx hb dX11_reopen_78 rfl (lv_at hl 1 rfl) ?_
          refine fg_X11_7 C hw h0 dX11_reopen_79 ?_
          refine lv_iconst (v := (0 : Int32)) hx hb dX11_reopen_82 (by decide) ?_
          obtain ⟨q_20, hf⟩ := x_gE hf
          refine x_ald C hw h_5 q_20 dX11_reopen_83 ?_
          obtain ⟨tv_23, tM_21, c_22, hf⟩ := x_bE hf
          refine x_vI C hw hl.1 [.int (M_11 (xr 1 k0 0) x2_17.toNatClampNeg), .int (M_11 (xr 1 k0 0) (x2_17 + (1 : Int32)).toNatClampNeg), .int (M_11 (xr 1 k0 0) (0 : Int32).toNatClampNeg)] [.int (x2_17 + (3 : Int32)), .ref (g.2.2.1 (xr 1 k0 0))] (mX11_sumOf l g h0 c_22) lk_X11_201 h0 (by decide) rfl (by decide) rfl (Nat.le_of_ble_eq_true rfl) ⟨Nat.zero_le _, Nat.zero_le _⟩ dX11_reopen_84 (fun v_23 M_21 H locs hN hw => ?_)
          obtain ⟨rfl, rfl⟩ := hN
          obtain ⟨q_24, hf⟩ := x_gE hf
          refine x_ast C hw h_5 q_24 dX11_reopen_87 (fun H locs hw => ?_)
          obtain ⟨M_25, eM_25⟩ : ∃ z, z = (x_up M_21 (xr 1 k0 0) (x2_17 + (3 : Int32)).toNatClampNeg v_23) := ⟨_, rfl⟩
          rw [← eM_25] at hw
          have hf := x_lE eM_25 hf
          refine lv_aload_n hx hb dX11_reopen_88 rfl (lv_at hl 1 rfl) ?_
          refine fg_X11_7 C hw h0 dX11_reopen_89 ?_
          refine lv_iload_n hx hb dX11_reopen_92 rfl (lv_at hl 0 rfl) ?_
          refine lv_iconst (v := (3 : Int32)) hx hb dX11_reopen_93 (by decide) ?_
          refine lv_iadd hx hb dX11_reopen_94 ?_
          obtain ⟨q_26, hf⟩ := x_gE hf
          refine x_ald C hw h_5 q_26 dX11_reopen_95 ?_
          exact ret hf dX11_reopen_96 hw
        · have hf := x_iP hf q_16
          refine lv_ldc hx hb hown (hB _ mk_X11_69) dX11_reopen_44 ?_
          exact ret hf dX11_reopen_46 hw
  · have hf := x_iP hf q_4
    refine lv_ldc hx hb hown (hB _ mk_X11_60) dX11_reopen_8 ?_
    exact ret hf dX11_reopen_10 hw
def fX11_pay (M : xM) (k0 : Nat) (a1 : Int32) (a2 : Int32) : Option (Int32 × xM) := x_b (fX11_isJudgment M k0 a1) fun v_3 M_1 => if v_3 = 0 then (some ((-1000000001 : Int32), M_1)) else (x_b (fX11_in M_1 a2 (1 : Int32) (9999999 : Int32)) fun v_7 M_5 => if v_7 = 0 then (some ((-1000000001 : Int32), M_5)) else (x_b (fX11_isTurned M_5 k0 a1) fun v_11 M_9 => if v_11 = 0 then (x_b (fX11_unpaid M_9 k0 a1) fun v_15 M_13 => x_b (fX11_less M_13 a2 v_15) fun v_18 M_16 => x_g (((792 : Int32) + ((10 : Int32) * a1)) + (4 : Int32)) (xn 1 (xr 1 k0 0)) (x_g (((792 : Int32) + ((10 : Int32) * a1)) + (4 : Int32)) (xn 1 (xr 1 k0 0)) (x_l (x_up M_16 (xr 1 k0 0) (((792 : Int32) + ((10 : Int32) * a1)) + (4 : Int32)).toNatClampNeg ((M_16 (xr 1 k0 0) (((792 : Int32) + ((10 : Int32) * a1)) + (4 : Int32)).toNatClampNeg) + v_18)) fun M_22 => some ((a2 - v_18), M_22)))) else (some ((-1000000002 : Int32), M_9))))
set_option maxRecDepth 100000 in
set_option maxHeartbeats 4000000 in
theorem mX11_pay (l : Launch) (g : xG) {k0 : Nat} {a1 : Int32} {a2 : Int32} {r : Int32} {M' : xM} (h0 : x_is 1 k0 11) {M : xM} (hf : fX11_pay M k0 a1 a2 = some (r, M')) : x_cI l g 1 yX11_pay cX11_pay 4 .int 2 43 [.ref (g.2.2.1 k0), .int a1, .int a2] M (fun v N => v = r ∧ N = M') := by
  refine x_stI RX11 (by decide) rfl (Nat.le_of_ble_eq_true rfl) ?_
  intro p e s m args below meth c Q ls C hw ret hl
  obtain ⟨hx, hb, hml, hown, hB, -⟩ := id C
  have hl : lv_has ls 4 [(0, .ref (g.2.2.1 k0)), (1, .int a1), (2, .int a2)] := hl
  unfold fX11_pay at hf
  refine lv_aload_n hx hb dX11_pay_0 rfl (lv_at hl 0 rfl) ?_
  refine lv_iload_n hx hb dX11_pay_1 rfl (lv_at hl 1 rfl) ?_
  obtain ⟨tv_3, tM_1, c_2, hf⟩ := x_bE hf
  refine x_vI C hw hl.1 [.int a1] [] (mX11_isJudgment l g h0 c_2) lk_X11_221 h0 (by decide) rfl (by decide) rfl (Nat.le_of_ble_eq_true rfl) ⟨Nat.zero_le _, Nat.zero_le _⟩ dX11_pay_2 (fun v_3 M_1 H locs hN hw => ?_)
  obtain ⟨rfl, rfl⟩ := hN
  refine lv_if_eq (tgt := 18) hx hb dX11_pay_5 (by decide) (fun q_4 => ?_) (fun q_4 => ?_)
  · have hf := x_iP hf q_4
    refine lv_ldc hx hb hown (hB _ mk_X11_60) dX11_pay_18 ?_
    exact ret hf dX11_pay_20 hw
  · have hf := x_iN hf q_4
    refine lv_iload_n hx hb dX11_pay_8 rfl (lv_at hl 2 rfl) ?_
    refine lv_iconst (v := (1 : Int32)) hx hb dX11_pay_9 (by decide) ?_
    refine lv_ldc hx hb hown (hB _ mk_X11_220) dX11_pay_10 ?_
    obtain ⟨tv_7, tM_5, c_6, hf⟩ := x_bE hf
    refine x_sI C hw hl.1 [.int a2, .int (1 : Int32), .int (9999999 : Int32)] [] (mX11_in l g c_6) lk_X11_56 (by decide) rfl (Nat.le_of_ble_eq_true rfl) ⟨Nat.zero_le _, Nat.zero_le _⟩ dX11_pay_12 (fun v_7 M_5 H locs hN hw => ?_)
    obtain ⟨rfl, rfl⟩ := hN
    refine lv_if_ne (tgt := 21) hx hb dX11_pay_15 (by decide) (fun q_8 => ?_) (fun q_8 => ?_)
    · have hf := x_iN hf q_8
      refine lv_aload_n hx hb dX11_pay_21 rfl (lv_at hl 0 rfl) ?_
      refine lv_iload_n hx hb dX11_pay_22 rfl (lv_at hl 1 rfl) ?_
      obtain ⟨tv_11, tM_9, c_10, hf⟩ := x_bE hf
      refine x_vI C hw hl.1 [.int a1] [] (mX11_isTurned l g h0 c_10) lk_X11_236 h0 (by decide) rfl (by decide) rfl (Nat.le_of_ble_eq_true rfl) ⟨Nat.zero_le _, Nat.zero_le _⟩ dX11_pay_23 (fun v_11 M_9 H locs hN hw => ?_)
      obtain ⟨rfl, rfl⟩ := hN
      refine lv_if_eq (tgt := 32) hx hb dX11_pay_26 (by decide) (fun q_12 => ?_) (fun q_12 => ?_)
      · have hf := x_iP hf q_12
        refine lv_iload_n hx hb dX11_pay_32 rfl (lv_at hl 2 rfl) ?_
        refine lv_aload_n hx hb dX11_pay_33 rfl (lv_at hl 0 rfl) ?_
        refine lv_iload_n hx hb dX11_pay_34 rfl (lv_at hl 1 rfl) ?_
        obtain ⟨tv_15, tM_13, c_14, hf⟩ := x_bE hf
        refine x_vI C hw hl.1 [.int a1] [.int a2] (mX11_unpaid l g h0 c_14) lk_X11_210 h0 (by decide) rfl (by decide) rfl (Nat.le_of_ble_eq_true rfl) ⟨Nat.zero_le _, Nat.zero_le _⟩ dX11_pay_35 (fun v_15 M_13 H locs hN hw => ?_)
        obtain ⟨rfl, rfl⟩ := hN
        obtain ⟨tv_18, tM_16, c_17, hf⟩ := x_bE hf
        refine x_sI C hw hl.1 [.int a2, .int v_15] [] (mX11_less l g c_17) lk_X11_195 (by decide) rfl (Nat.le_of_ble_eq_true rfl) ⟨Nat.zero_le _, Nat.zero_le _⟩ dX11_pay_38 (fun v_18 M_16 H locs hN hw => ?_)
        obtain ⟨rfl, rfl⟩ := hN
        refine lv_istore_n (lv' := [(3, .int v_18), (0, .ref (g.2.2.1 k0)), (1, .int a1), (2, .int a2)]) hx hb dX11_pay_41 rfl hl (by decide) rfl (fun ls hl => ?_)
        refine lv_aload_n hx hb dX11_pay_42 rfl (lv_at hl 1 rfl) ?_
        refine fg_X11_7 C hw h0 dX11_pay_43 ?_
        have h_19 : x_is 1 (xr 1 k0 0) 12 := x_tm h0 (by decide) rfl
        refine lv_sipush (v := (792 : Int32)) hx hb dX11_pay_46 (by decide) ?_
        refine lv_bipush (v := (10 : Int32)) hx hb dX11_pay_49 (by decide) ?_
        refine lv_iload_n hx hb dX11_pay_51 rfl (lv_at hl 2 rfl) ?_
        refine lv_imul hx hb dX11_pay_52 ?_
        refine lv_iadd hx hb dX11_pay_53 ?_
        refine lv_iconst (v := (4 : Int32)) hx hb dX11_pay_54 (by decide) ?_
        refine lv_iadd hx hb dX11_pay_55 ?_
        refine lv_dup2_11 hx hb dX11_pay_56 rfl rfl ?_
        obtain ⟨q_20, hf⟩ := x_gE hf
        refine x_ald C hw h_19 q_20 dX11_pay_57 ?_
        refine lv_iload_n hx hb dX11_pay_58 rfl (lv_at hl 0 rfl) ?_
        refine lv_iadd hx hb dX11_pay_59 ?_
        obtain ⟨q_21, hf⟩ := x_gE hf
        refine x_ast C hw h_19 q_21 dX11_pay_60 (fun H locs hw => ?_)
        obtain ⟨M_22, eM_22⟩ : ∃ z, z = (x_up M_16 (xr 1 k0 0) (((792 : Int32) + ((10 : Int32) * a1)) + (4 : Int32)).toNatClampNeg ((M_16 (xr 1 k0 0) (((792 : Int32) + ((10 : Int32) * a1)) + (4 : Int32)).toNatClampNeg) + v_18)) := ⟨_, rfl⟩
        rw [← eM_22] at hw
        have hf := x_lE eM_22 hf
        refine lv_iload_n hx hb dX11_pay_61 rfl (lv_at hl 3 rfl) ?_
        refine lv_iload_n hx hb dX11_pay_62 rfl (lv_at hl 0 rfl) ?_
        refine lv_isub hx hb dX11_pay_63 ?_
        exact ret hf dX11_pay_64 hw
      · have hf := x_iN hf q_12
        refine lv_ldc hx hb hown (hB _ mk_X11_69) dX11_pay_29 ?_
        exact ret hf dX11_pay_31 hw
    · have hf := x_iP hf q_8
      refine lv_ldc hx hb hown (hB _ mk_X11_60) dX11_pay_18 ?_
      exact ret hf dX11_pay_20 hw
def fX11_back (M : xM) (k0 : Nat) (a1 : Int32) : Option (Int32 × xM) := x_b (fX11_isJudgment M k0 a1) fun v_3 M_1 => if v_3 = 0 then (some ((-1000000001 : Int32), M_1)) else (x_l ((792 : Int32) + ((10 : Int32) * a1)) fun x2_5 => x_g (x2_5 + (4 : Int32)) (xn 1 (xr 1 k0 0)) (x_b (fX11_fine M_1 k0 a1) fun v_10 M_8 => x_l ((M_1 (xr 1 k0 0) (x2_5 + (4 : Int32)).toNatClampNeg) - v_10) fun x3_11 => if 0 < x3_11 then (x_b (fX11_fine M_8 k0 a1) fun v_15 M_13 => x_g (x2_5 + (4 : Int32)) (xn 1 (xr 1 k0 0)) (x_l (x_up M_13 (xr 1 k0 0) (x2_5 + (4 : Int32)).toNatClampNeg v_15) fun M_17 => x_g (11 : Int32) (xn 1 (xr 1 k0 0)) (x_g (0 : Int32) (xn 1 (xr 1 k0 0)) (x_g (x2_5 + (1 : Int32)) (xn 1 (xr 1 k0 0)) (x_dL (36500 : Int64) (some ((x3_11 + (((((x3_11.toInt64) * ((M_17 (xr 1 k0 0) (11 : Int32).toNatClampNeg).toInt64)) * (((M_17 (xr 1 k0 0) (0 : Int32).toNatClampNeg) - (M_17 (xr 1 k0 0) (x2_5 + (1 : Int32)).toNatClampNeg)).toInt64)) / (36500 : Int64)).toInt32)), M_17))))))) else (some ((-1000000002 : Int32), M_8))))
set_option maxRecDepth 100000 in
set_option maxHeartbeats 4000000 in
theorem mX11_back (l : Launch) (g : xG) {k0 : Nat} {a1 : Int32} {r : Int32} {M' : xM} (h0 : x_is 1 k0 11) {M : xM} (hf : fX11_back M k0 a1 = some (r, M')) : x_cI l g 1 yX11_back cX11_back 4 .int 2 43 [.ref (g.2.2.1 k0), .int a1] M (fun v N => v = r ∧ N = M') := by
  refine x_stI RX11 (by decide) rfl (Nat.le_of_ble_eq_true rfl) ?_
  intro p e s m args below meth c Q ls C hw ret hl
  obtain ⟨hx, hb, hml, hown, hB, -⟩ := id C
  have hl : lv_has ls 4 [(0, .ref (g.2.2.1 k0)), (1, .int a1)] := hl
  unfold fX11_back at hf
  refine lv_aload_n hx hb dX11_back_0 rfl (lv_at hl 0 rfl) ?_
  refine lv_iload_n hx hb dX11_back_1 rfl (lv_at hl 1 rfl) ?_
  obtain ⟨tv_3, tM_1, c_2, hf⟩ := x_bE hf
  refine x_vI C hw hl.1 [.int a1] [] (mX11_isJudgment l g h0 c_2) lk_X11_221 h0 (by decide) rfl (by decide) rfl (Nat.le_of_ble_eq_true rfl) ⟨Nat.zero_le _, Nat.zero_le _⟩ dX11_back_2 (fun v_3 M_1 H locs hN hw => ?_)
  obtain ⟨rfl, rfl⟩ := hN
  refine lv_if_ne (tgt := 11) hx hb dX11_back_5 (by decide) (fun q_4 => ?_) (fun q_4 => ?_)
  · have hf := x_iN hf q_4
    refine lv_sipush (v := (792 : Int32)) hx hb dX11_back_11 (by decide) ?_
    refine lv_bipush (v := (10 : Int32)) hx hb dX11_back_14 (by decide) ?_
    refine lv_iload_n hx hb dX11_back_16 rfl (lv_at hl 1 rfl) ?_
    refine lv_imul hx hb dX11_back_17 ?_
    refine lv_iadd hx hb dX11_back_18 ?_
    refine lv_topi (fun x2_5 ex2_5 => ?_)
    have hf := x_lE ex2_5 hf
    refine lv_istore_n (lv' := [(2, .int x2_5), (0, .ref (g.2.2.1 k0)), (1, .int a1)]) hx hb dX11_back_19 rfl hl (by decide) rfl (fun ls hl => ?_)
    refine lv_aload_n hx hb dX11_back_20 rfl (lv_at hl 1 rfl) ?_
    refine fg_X11_7 C hw h0 dX11_back_21 ?_
    have h_6 : x_is 1 (xr 1 k0 0) 12 := x_tm h0 (by decide) rfl
    refine lv_iload_n hx hb dX11_back_24 rfl (lv_at hl 0 rfl) ?_
    refine lv_iconst (v := (4 : Int32)) hx hb dX11_back_25 (by decide) ?_
    refine lv_iadd hx hb dX11_back_26 ?_
    obtain ⟨q_7, hf⟩ := x_gE hf
    refine x_ald C hw h_6 q_7 dX11_back_27 ?_
    refine lv_aload_n hx hb dX11_back_28 rfl (lv_at hl 1 rfl) ?_
    refine lv_iload_n hx hb dX11_back_29 rfl (lv_at hl 2 rfl) ?_
    obtain ⟨tv_10, tM_8, c_9, hf⟩ := x_bE hf
    refine x_vI C hw hl.1 [.int a1] [.int (M_1 (xr 1 k0 0) (x2_5 + (4 : Int32)).toNatClampNeg)] (mX11_fine l g h0 c_9) lk_X11_207 h0 (by decide) rfl (by decide) rfl (Nat.le_of_ble_eq_true rfl) ⟨Nat.zero_le _, Nat.zero_le _⟩ dX11_back_30 (fun v_10 M_8 H locs hN hw => ?_)
    obtain ⟨rfl, rfl⟩ := hN
    refine lv_isub hx hb dX11_back_33 ?_
    refine lv_topi (fun x3_11 ex3_11 => ?_)
    have hf := x_lE ex3_11 hf
    refine lv_istore_n (lv' := [(3, .int x3_11), (2, .int x2_5), (0, .ref (g.2.2.1 k0)), (1, .int a1)]) hx hb dX11_back_34 rfl hl (by decide) rfl (fun ls hl => ?_)
    refine lv_iload_n hx hb dX11_back_35 rfl (lv_at hl 0 rfl) ?_
    refine lv_if_gt (tgt := 42) hx hb dX11_back_36 (by decide) (fun q_12 => ?_) (fun q_12 => ?_)
    · have hf := x_iP hf q_12
      refine lv_aload_n hx hb dX11_back_42 rfl (lv_at hl 2 rfl) ?_
      refine fg_X11_7 C hw h0 dX11_back_43 ?_
      refine lv_iload_n hx hb dX11_back_46 rfl (lv_at hl 1 rfl) ?_
      refine lv_iconst (v := (4 : Int32)) hx hb dX11_back_47 (by decide) ?_
      refine lv_iadd hx hb dX11_back_48 ?_
      refine lv_aload_n hx hb dX11_back_49 rfl (lv_at hl 2 rfl) ?_
      refine lv_iload_n hx hb dX11_back_50 rfl (lv_at hl 3 rfl) ?_
      obtain ⟨tv_15, tM_13, c_14, hf⟩ := x_bE hf
      refine x_vI C hw hl.1 [.int a1] [.int (x2_5 + (4 : Int32)), .ref (g.2.2.1 (xr 1 k0 0))] (mX11_fine l g h0 c_14) lk_X11_207 h0 (by decide) rfl (by decide) rfl (Nat.le_of_ble_eq_true rfl) ⟨Nat.zero_le _, Nat.zero_le _⟩ dX11_back_51 (fun v_15 M_13 H locs hN hw => ?_)
      obtain ⟨rfl, rfl⟩ := hN
      obtain ⟨q_16, hf⟩ := x_gE hf
      refine x_ast C hw h_6 q_16 dX11_back_54 (fun H locs hw => ?_)
      obtain ⟨M_17, eM_17⟩ : ∃ z, z = (x_up M_13 (xr 1 k0 0) (x2_5 + (4 : Int32)).toNatClampNeg v_15) := ⟨_, rfl⟩
      rw [← eM_17] at hw
      have hf := x_lE eM_17 hf
      refine lv_iload_n hx hb dX11_back_55 rfl (lv_at hl 0 rfl) ?_
      refine lv_iload_n hx hb dX11_back_56 rfl (lv_at hl 0 rfl) ?_
      refine lv_i2l hx hb dX11_back_57 rfl ?_
      refine lv_aload_n hx hb dX11_back_58 rfl (lv_at hl 2 rfl) ?_
      refine fg_X11_7 C hw h0 dX11_back_59 ?_
      refine lv_bipush (v := (11 : Int32)) hx hb dX11_back_62 (by decide) ?_
      obtain ⟨q_18, hf⟩ := x_gE hf
      refine x_ald C hw h_6 q_18 dX11_back_64 ?_
      refine lv_i2l hx hb dX11_back_65 rfl ?_
      refine lv_lmul hx hb dX11_back_66 ?_
      refine lv_aload_n hx hb dX11_back_67 rfl (lv_at hl 2 rfl) ?_
      refine fg_X11_7 C hw h0 dX11_back_68 ?_
      refine lv_iconst (v := (0 : Int32)) hx hb dX11_back_71 (by decide) ?_
      obtain ⟨q_19, hf⟩ := x_gE hf
      refine x_ald C hw h_6 q_19 dX11_back_72 ?_
      refine lv_aload_n hx hb dX11_back_73 rfl (lv_at hl 2 rfl) ?_
      refine fg_X11_7 C hw h0 dX11_back_74 ?_
      refine lv_iload_n hx hb dX11_back_77 rfl (lv_at hl 1 rfl) ?_
      refine lv_iconst (v := (1 : Int32)) hx hb dX11_back_78 (by decide) ?_
      refine lv_iadd hx hb dX11_back_79 ?_
      obtain ⟨q_20, hf⟩ := x_gE hf
      refine x_ald C hw h_6 q_20 dX11_back_80 ?_
      refine lv_isub hx hb dX11_back_81 ?_
      refine lv_i2l hx hb dX11_back_82 rfl ?_
      refine lv_lmul hx hb dX11_back_83 ?_
      refine lv_ldc2 hx hb hown (hB _ mkl_X11_239) dX11_back_84 ?_
      obtain ⟨q_21, hf⟩ := x_dLE hf
      refine lv_ldiv hx hb dX11_back_87 q_21 ?_
      refine lv_l2i hx hb dX11_back_88 rfl ?_
      refine lv_iadd hx hb dX11_back_89 ?_
      exact ret hf dX11_back_90 hw
    · have hf := x_iN hf q_12
      refine lv_ldc hx hb hown (hB _ mk_X11_69) dX11_back_39 ?_
      exact ret hf dX11_back_41 hw
  · have hf := x_iP hf q_4
    refine lv_ldc hx hb hown (hB _ mk_X11_60) dX11_back_8 ?_
    exact ret hf dX11_back_10 hw
def fX11_step (M : xM) (k0 : Nat) (a1 : Int32) : Option (Int32 × xM) := x_b (fX11_isJudgment M k0 a1) fun v_3 M_1 => if v_3 = 0 then (some ((-1000000001 : Int32), M_1)) else (x_l ((792 : Int32) + ((10 : Int32) * a1)) fun x2_5 => x_b (fX11_isTurned M_1 k0 a1) fun v_8 M_6 => if v_8 = 0 then (x_b (fX11_unpaid M_6 k0 a1) fun v_12 M_10 => if v_12 = 0 then (some ((-1000000002 : Int32), M_10)) else (x_g (0 : Int32) (xn 1 (xr 1 k0 0)) (x_g (x2_5 + (6 : Int32)) (xn 1 (xr 1 k0 0)) (x_g (12 : Int32) (xn 1 (xr 1 k0 0)) (if ((M_10 (xr 1 k0 0) (0 : Int32).toNatClampNeg) - (M_10 (xr 1 k0 0) (x2_5 + (6 : Int32)).toNatClampNeg)) < (M_10 (xr 1 k0 0) (12 : Int32).toNatClampNeg) then (some ((-1000000002 : Int32), M_10)) else (x_g (x2_5 + (5 : Int32)) (xn 1 (xr 1 k0 0)) (x_l (fun (M_21 : xM) => x_g (x2_5 + (5 : Int32)) (xn 1 (xr 1 k0 0)) (x_g (x2_5 + (5 : Int32)) (xn 1 (xr 1 k0 0)) (x_l (x_up M_21 (xr 1 k0 0) (x2_5 + (5 : Int32)).toNatClampNeg ((M_21 (xr 1 k0 0) (x2_5 + (5 : Int32)).toNatClampNeg) + (1 : Int32))) fun M_24 => x_g (0 : Int32) (xn 1 (xr 1 k0 0)) (x_g (x2_5 + (6 : Int32)) (xn 1 (xr 1 k0 0)) (x_l (x_up M_24 (xr 1 k0 0) (x2_5 + (6 : Int32)).toNatClampNeg (M_24 (xr 1 k0 0) (0 : Int32).toNatClampNeg)) fun M_27 => x_b (fX11_isTurned M_27 k0 a1) fun v_30 M_28 => x_l (fun (M_32 : xM) => x_g (x2_5 + (5 : Int32)) (xn 1 (xr 1 k0 0)) (some ((M_32 (xr 1 k0 0) (x2_5 + (5 : Int32)).toNatClampNeg), M_32))) fun k183_31 => if v_30 = 0 then (k183_31 M_28) else (x_b (fX11_unpaidDays M_28 k0 a1) fun v_38 M_36 => x_g (117 : Int32) (xn 1 (xr 1 k0 20)) (x_l (x_up M_36 (xr 1 k0 20) (117 : Int32).toNatClampNeg v_38) fun M_40 => x_g x2_5 (xn 1 (xr 1 k0 0)) (x_b (fX11_isYoung M_40 k0 (M_40 (xr 1 k0 0) x2_5.toNatClampNeg)) fun v_44 M_42 => x_l (fun (M_47 : xM) (z_45 : Int32) => x_g (121 : Int32) (xn 1 (xr 1 k0 20)) (x_l (x_up M_47 (xr 1 k0 20) (121 : Int32).toNatClampNeg z_45) fun M_49 => x_b (fX11_worked M_49 k0 (2 : Int32)) fun v_52 M_50 => x_b (fX11_more M_50 v_52 (0 : Int32)) fun v_55 M_53 => x_b (fX11_less M_53 v_55 (9999 : Int32)) fun v_58 M_56 => x_g (x2_5 + (7 : Int32)) (xn 1 (xr 1 k0 0)) (x_l (x_up M_56 (xr 1 k0 0) (x2_5 + (7 : Int32)).toNatClampNeg v_58) fun M_60 => k183_31 M_60))) fun k158_46 => if v_44 = 0 then (k158_46 M_42 (0 : Int32)) else (k158_46 M_42 (1 : Int32)))))))))) fun k87_20 => if (M_10 (xr 1 k0 0) (x2_5 + (5 : Int32)).toNatClampNeg) = (2 : Int32) then (x_g (21 : Int32) (xn 1 (xr 1 k0 0)) (if (M_10 (xr 1 k0 0) (21 : Int32).toNatClampNeg) = 0 then (some ((-1000000002 : Int32), M_10)) else (k87_20 M_10))) else (k87_20 M_10)))))))) else (some ((-1000000002 : Int32), M_6)))
set_option maxRecDepth 100000 in
set_option maxHeartbeats 4000000 in
theorem mX11_step (l : Launch) (g : xG) {k0 : Nat} {a1 : Int32} {r : Int32} {M' : xM} (h0 : x_is 1 k0 11) {M : xM} (hf : fX11_step M k0 a1 = some (r, M')) : x_cI l g 1 yX11_step cX11_step 3 .int 3 64 [.ref (g.2.2.1 k0), .int a1] M (fun v N => v = r ∧ N = M') := by
  refine x_stI RX11 (by decide) rfl (Nat.le_of_ble_eq_true rfl) ?_
  intro p e s m args below meth c Q ls C hw ret hl
  obtain ⟨hx, hb, hml, hown, hB, -⟩ := id C
  have hl : lv_has ls 3 [(0, .ref (g.2.2.1 k0)), (1, .int a1)] := hl
  unfold fX11_step at hf
  refine lv_aload_n hx hb dX11_step_0 rfl (lv_at hl 0 rfl) ?_
  refine lv_iload_n hx hb dX11_step_1 rfl (lv_at hl 1 rfl) ?_
  obtain ⟨tv_3, tM_1, c_2, hf⟩ := x_bE hf
  refine x_vI C hw hl.1 [.int a1] [] (mX11_isJudgment l g h0 c_2) lk_X11_221 h0 (by decide) rfl (by decide) rfl (Nat.le_of_ble_eq_true rfl) ⟨Nat.zero_le _, Nat.zero_le _⟩ dX11_step_2 (fun v_3 M_1 H locs hN hw => ?_)
  obtain ⟨rfl, rfl⟩ := hN
  refine lv_if_ne (tgt := 11) hx hb dX11_step_5 (by decide) (fun q_4 => ?_) (fun q_4 => ?_)
  · have hf := x_iN hf q_4
    refine lv_sipush (v := (792 : Int32)) hx hb dX11_step_11 (by decide) ?_
    refine lv_bipush (v := (10 : Int32)) hx hb dX11_step_14 (by decide) ?_
    refine lv_iload_n hx hb dX11_step_16 rfl (lv_at hl 1 rfl) ?_
    refine lv_imul hx hb dX11_step_17 ?_
    refine lv_iadd hx hb dX11_step_18 ?_
    refine lv_topi (fun x2_5 ex2_5 => ?_)
    have hf := x_lE ex2_5 hf
    refine lv_istore_n (lv' := [(2, .int x2_5), (0, .ref (g.2.2.1 k0)), (1, .int a1)]) hx hb dX11_step_19 rfl hl (by decide) rfl (fun ls hl => ?_)
    refine lv_aload_n hx hb dX11_step_20 rfl (lv_at hl 1 rfl) ?_
    refine lv_iload_n hx hb dX11_step_21 rfl (lv_at hl 2 rfl) ?_
    obtain ⟨tv_8, tM_6, c_7, hf⟩ := x_bE hf
    refine x_vI C hw hl.1 [.int a1] [] (mX11_isTurned l g h0 c_7) lk_X11_236 h0 (by decide) rfl (by decide) rfl (Nat.le_of_ble_eq_true rfl) ⟨Nat.zero_le _, Nat.zero_le _⟩ dX11_step_22 (fun v_8 M_6 H locs hN hw => ?_)
    obtain ⟨rfl, rfl⟩ := hN
    refine lv_if_ne (tgt := 84) hx hb dX11_step_25 (by decide) (fun q_9 => ?_) (fun q_9 => ?_)
    · have hf := x_iN hf q_9
      refine lv_ldc hx hb hown (hB _ mk_X11_69) dX11_step_84 ?_
      exact ret hf dX11_step_86 hw
    · have hf := x_iP hf q_9
      refine lv_aload_n hx hb dX11_step_28 rfl (lv_at hl 1 rfl) ?_
      refine lv_iload_n hx hb dX11_step_29 rfl (lv_at hl 2 rfl) ?_
      obtain ⟨tv_12, tM_10, c_11, hf⟩ := x_bE hf
      refine x_vI C hw hl.1 [.int a1] [] (mX11_unpaid l g h0 c_11) lk_X11_210 h0 (by decide) rfl (by decide) rfl (Nat.le_of_ble_eq_true rfl) ⟨Nat.zero_le _, Nat.zero_le _⟩ dX11_step_30 (fun v_12 M_10 H locs hN hw => ?_)
      obtain ⟨rfl, rfl⟩ := hN
      refine lv_if_eq (tgt := 84) hx hb dX11_step_33 (by decide) (fun q_13 => ?_) (fun q_13 => ?_)
      · have hf := x_iP hf q_13
        refine lv_ldc hx hb hown (hB _ mk_X11_69) dX11_step_84 ?_
        exact ret hf dX11_step_86 hw
      · have hf := x_iN hf q_13
        refine lv_aload_n hx hb dX11_step_36 rfl (lv_at hl 1 rfl) ?_
        refine fg_X11_7 C hw h0 dX11_step_37 ?_
        have h_14 : x_is 1 (xr 1 k0 0) 12 := x_tm h0 (by decide) rfl
        refine lv_iconst (v := (0 : Int32)) hx hb dX11_step_40 (by decide) ?_
        obtain ⟨q_15, hf⟩ := x_gE hf
        refine x_ald C hw h_14 q_15 dX11_step_41 ?_
        refine lv_aload_n hx hb dX11_step_42 rfl (lv_at hl 1 rfl) ?_
        refine fg_X11_7 C hw h0 dX11_step_43 ?_
        refine lv_iload_n hx hb dX11_step_46 rfl (lv_at hl 0 rfl) ?_
        refine lv_bipush (v := (6 : Int32)) hx hb dX11_step_47 (by decide) ?_
        refine lv_iadd hx hb dX11_step_49 ?_
        obtain ⟨q_16, hf⟩ := x_gE hf
        refine x_ald C hw h_14 q_16 dX11_step_50 ?_
        refine lv_isub hx hb dX11_step_51 ?_
        refine lv_aload_n hx hb dX11_step_52 rfl (lv_at hl 1 rfl) ?_
        refine fg_X11_7 C hw h0 dX11_step_53 ?_
        refine lv_bipush (v := (12 : Int32)) hx hb dX11_step_56 (by decide) ?_
        obtain ⟨q_17, hf⟩ := x_gE hf
        refine x_ald C hw h_14 q_17 dX11_step_58 ?_
        refine lv_icmp_lt (tgt := 84) hx hb dX11_step_59 (by decide) (fun q_18 => ?_) (fun q_18 => ?_)
        · have hf := x_iP hf q_18
          refine lv_ldc hx hb hown (hB _ mk_X11_69) dX11_step_84 ?_
          exact ret hf dX11_step_86 hw
        · have hf := x_iN hf q_18
          refine lv_aload_n hx hb dX11_step_62 rfl (lv_at hl 1 rfl) ?_
          refine fg_X11_7 C hw h0 dX11_step_63 ?_
          refine lv_iload_n hx hb dX11_step_66 rfl (lv_at hl 0 rfl) ?_
          refine lv_iconst (v := (5 : Int32)) hx hb dX11_step_67 (by decide) ?_
          refine lv_iadd hx hb dX11_step_68 ?_
          obtain ⟨q_19, hf⟩ := x_gE hf
          refine x_ald C hw h_14 q_19 dX11_step_69 ?_
          refine lv_iconst (v := (2 : Int32)) hx hb dX11_step_70 (by decide) ?_
          obtain ⟨k87_20, ek87_20, hf⟩ := x_jE hf
          have hk87_20 : ∀ (H : Heap) (locs : List Loc) (M_21 : xM)  (ls : Array Slot) , lv_has ls 3 [(2, .int x2_5), (0, .ref (g.2.2.1 k0)), (1, .int a1)] → x_w g 1 s H locs M_21 → k87_20 M_21 = some (r, M') → W p l e (x_rm 3 64) s m args below meth c H locs 0 0 Q (F0 m 87 ls []) := by
            intro H locs M_21  ls  hl hw hf
            rw [ek87_20] at hf
            refine lv_aload_n hx hb dX11_step_87 rfl (lv_at hl 1 rfl) ?_
            refine fg_X11_7 C hw h0 dX11_step_88 ?_
            refine lv_iload_n hx hb dX11_step_91 rfl (lv_at hl 0 rfl) ?_
            refine lv_iconst (v := (5 : Int32)) hx hb dX11_step_92 (by decide) ?_
            refine lv_iadd hx hb dX11_step_93 ?_
            refine lv_dup2_11 hx hb dX11_step_94 rfl rfl ?_
            obtain ⟨q_22, hf⟩ := x_gE hf
            refine x_ald C hw h_14 q_22 dX11_step_95 ?_
            refine lv_iconst (v := (1 : Int32)) hx hb dX11_step_96 (by decide) ?_
            refine lv_iadd hx hb dX11_step_97 ?_
            obtain ⟨q_23, hf⟩ := x_gE hf
            refine x_ast C hw h_14 q_23 dX11_step_98 (fun H locs hw => ?_)
            obtain ⟨M_24, eM_24⟩ : ∃ z, z = (x_up M_21 (xr 1 k0 0) (x2_5 + (5 : Int32)).toNatClampNeg ((M_21 (xr 1 k0 0) (x2_5 + (5 : Int32)).toNatClampNeg) + (1 : Int32))) := ⟨_, rfl⟩
            rw [← eM_24] at hw
            have hf := x_lE eM_24 hf
            refine lv_aload_n hx hb dX11_step_99 rfl (lv_at hl 1 rfl) ?_
            refine fg_X11_7 C hw h0 dX11_step_100 ?_
            refine lv_iload_n hx hb dX11_step_103 rfl (lv_at hl 0 rfl) ?_
            refine lv_bipush (v := (6 : Int32)) hx hb dX11_step_104 (by decide) ?_
            refine lv_iadd hx hb dX11_step_106 ?_
            refine lv_aload_n hx hb dX11_step_107 rfl (lv_at hl 1 rfl) ?_
            refine fg_X11_7 C hw h0 dX11_step_108 ?_
            refine lv_iconst (v := (0 : Int32)) hx hb dX11_step_111 (by decide) ?_
            obtain ⟨q_25, hf⟩ := x_gE hf
            refine x_ald C hw h_14 q_25 dX11_step_112 ?_
            obtain ⟨q_26, hf⟩ := x_gE hf
            refine x_ast C hw h_14 q_26 dX11_step_113 (fun H locs hw => ?_)
            obtain ⟨M_27, eM_27⟩ : ∃ z, z = (x_up M_24 (xr 1 k0 0) (x2_5 + (6 : Int32)).toNatClampNeg (M_24 (xr 1 k0 0) (0 : Int32).toNatClampNeg)) := ⟨_, rfl⟩
            rw [← eM_27] at hw
            have hf := x_lE eM_27 hf
            refine lv_aload_n hx hb dX11_step_114 rfl (lv_at hl 1 rfl) ?_
            refine lv_iload_n hx hb dX11_step_115 rfl (lv_at hl 2 rfl) ?_
            obtain ⟨tv_30, tM_28, c_29, hf⟩ := x_bE hf
            refine x_vI C hw hl.1 [.int a1] [] (mX11_isTurned l g h0 c_29) lk_X11_236 h0 (by decide) rfl (by decide) rfl (Nat.le_of_ble_eq_true rfl) ⟨Nat.zero_le _, Nat.zero_le _⟩ dX11_step_116 (fun v_30 M_28 H locs hN hw => ?_)
            obtain ⟨rfl, rfl⟩ := hN
            obtain ⟨k183_31, ek183_31, hf⟩ := x_jE hf
            have hk183_31 : ∀ (H : Heap) (locs : List Loc) (M_32 : xM)  (ls : Array Slot) , lv_has ls 3 [(2, .int x2_5), (0, .ref (g.2.2.1 k0))] → x_w g 1 s H locs M_32 → k183_31 M_32 = some (r, M') → W p l e (x_rm 3 64) s m args below meth c H locs 0 0 Q (F0 m 183 ls []) := by
              intro H locs M_32  ls  hl hw hf
              rw [ek183_31] at hf
              refine lv_aload_n hx hb dX11_step_183 rfl (lv_at hl 1 rfl) ?_
              refine fg_X11_7 C hw h0 dX11_step_184 ?_
              refine lv_iload_n hx hb dX11_step_187 rfl (lv_at hl 0 rfl) ?_
              refine lv_iconst (v := (5 : Int32)) hx hb dX11_step_188 (by decide) ?_
              refine lv_iadd hx hb dX11_step_189 ?_
              obtain ⟨q_33, hf⟩ := x_gE hf
              refine x_ald C hw h_14 q_33 dX11_step_190 ?_
              exact ret hf dX11_step_191 hw
            refine lv_if_eq (tgt := 183) hx hb dX11_step_119 (by decide) (fun q_34 => ?_) (fun q_34 => ?_)
            · have hf := x_iP hf q_34
              exact hk183_31 _ _ _ _ (lv_sub hl [0, 1] rfl) hw hf
            · have hf := x_iN hf q_34
              refine lv_aload_n hx hb dX11_step_122 rfl (lv_at hl 1 rfl) ?_
              refine fg_X11_28 C hw h0 dX11_step_123 ?_
              have h_35 : x_is 1 (xr 1 k0 20) 12 := x_tm h0 (by decide) rfl
              refine lv_bipush (v := (117 : Int32)) hx hb dX11_step_126 (by decide) ?_
              refine lv_aload_n hx hb dX11_step_128 rfl (lv_at hl 1 rfl) ?_
              refine lv_iload_n hx hb dX11_step_129 rfl (lv_at hl 2 rfl) ?_
              obtain ⟨tv_38, tM_36, c_37, hf⟩ := x_bE hf
              refine x_vI C hw hl.1 [.int a1] [.int (117 : Int32), .ref (g.2.2.1 (xr 1 k0 20))] (mX11_unpaidDays l g h0 c_37) lk_X11_224 h0 (by decide) rfl (by decide) rfl (Nat.le_of_ble_eq_true rfl) ⟨Nat.zero_le _, Nat.zero_le _⟩ dX11_step_130 (fun v_38 M_36 H locs hN hw => ?_)
              obtain ⟨rfl, rfl⟩ := hN
              obtain ⟨q_39, hf⟩ := x_gE hf
              refine x_ast C hw h_35 q_39 dX11_step_133 (fun H locs hw => ?_)
              obtain ⟨M_40, eM_40⟩ : ∃ z, z = (x_up M_36 (xr 1 k0 20) (117 : Int32).toNatClampNeg v_38) := ⟨_, rfl⟩
              rw [← eM_40] at hw
              have hf := x_lE eM_40 hf
              refine lv_aload_n hx hb dX11_step_134 rfl (lv_at hl 1 rfl) ?_
              refine fg_X11_28 C hw h0 dX11_step_135 ?_
              refine lv_bipush (v := (121 : Int32)) hx hb dX11_step_138 (by decide) ?_
              refine lv_aload_n hx hb dX11_step_140 rfl (lv_at hl 1 rfl) ?_
              refine lv_aload_n hx hb dX11_step_141 rfl (lv_at hl 1 rfl) ?_
              refine fg_X11_7 C hw h0 dX11_step_142 ?_
              refine lv_iload_n hx hb dX11_step_145 rfl (lv_at hl 0 rfl) ?_
              obtain ⟨q_41, hf⟩ := x_gE hf
              refine x_ald C hw h_14 q_41 dX11_step_146 ?_
              obtain ⟨tv_44, tM_42, c_43, hf⟩ := x_bE hf
              refine x_vI C hw hl.1 [.int (M_40 (xr 1 k0 0) x2_5.toNatClampNeg)] [.int (121 : Int32), .ref (g.2.2.1 (xr 1 k0 20))] (mX11_isYoung l g h0 c_43) lk_X11_66 h0 (by decide) rfl (by decide) rfl (Nat.le_of_ble_eq_true rfl) ⟨Nat.zero_le _, Nat.zero_le _⟩ dX11_step_147 (fun v_44 M_42 H locs hN hw => ?_)
              obtain ⟨rfl, rfl⟩ := hN
              obtain ⟨k158_46, ek158_46, hf⟩ := x_jE hf
              have hk158_46 : ∀ (H : Heap) (locs : List Loc) (M_47 : xM) (z_45 : Int32) (ls : Array Slot) , lv_has ls 3 [(2, .int x2_5), (0, .ref (g.2.2.1 k0))] → x_w g 1 s H locs M_47 → k158_46 M_47 z_45 = some (r, M') → W p l e (x_rm 3 64) s m args below meth c H locs 0 0 Q (F0 m 158 ls [.int z_45, .int (121 : Int32), .ref (g.2.2.1 (xr 1 k0 20))]) := by
                intro H locs M_47 z_45 ls  hl hw hf
                rw [ek158_46] at hf
                obtain ⟨q_48, hf⟩ := x_gE hf
                refine x_ast C hw h_35 q_48 dX11_step_158 (fun H locs hw => ?_)
                obtain ⟨M_49, eM_49⟩ : ∃ z, z = (x_up M_47 (xr 1 k0 20) (121 : Int32).toNatClampNeg z_45) := ⟨_, rfl⟩
                rw [← eM_49] at hw
                have hf := x_lE eM_49 hf
                refine lv_aload_n hx hb dX11_step_159 rfl (lv_at hl 1 rfl) ?_
                refine fg_X11_7 C hw h0 dX11_step_160 ?_
                refine lv_iload_n hx hb dX11_step_163 rfl (lv_at hl 0 rfl) ?_
                refine lv_bipush (v := (7 : Int32)) hx hb dX11_step_164 (by decide) ?_
                refine lv_iadd hx hb dX11_step_166 ?_
                refine lv_aload_n hx hb dX11_step_167 rfl (lv_at hl 1 rfl) ?_
                refine lv_iconst (v := (2 : Int32)) hx hb dX11_step_168 (by decide) ?_
                obtain ⟨tv_52, tM_50, c_51, hf⟩ := x_bE hf
                refine x_vI C hw hl.1 [.int (2 : Int32)] [.int (x2_5 + (7 : Int32)), .ref (g.2.2.1 (xr 1 k0 0))] (mX11_worked l g h0 c_51) lk_X11_192 h0 (by decide) rfl (by decide) rfl (Nat.le_of_ble_eq_true rfl) ⟨Nat.zero_le _, Nat.zero_le _⟩ dX11_step_169 (fun v_52 M_50 H locs hN hw => ?_)
                obtain ⟨rfl, rfl⟩ := hN
                refine lv_iconst (v := (0 : Int32)) hx hb dX11_step_172 (by decide) ?_
                obtain ⟨tv_55, tM_53, c_54, hf⟩ := x_bE hf
                refine x_sI C hw hl.1 [.int v_52, .int (0 : Int32)] [.int (x2_5 + (7 : Int32)), .ref (g.2.2.1 (xr 1 k0 0))] (mX11_more l g c_54) lk_X11_75 (by decide) rfl (Nat.le_of_ble_eq_true rfl) ⟨Nat.zero_le _, Nat.zero_le _⟩ dX11_step_173 (fun v_55 M_53 H locs hN hw => ?_)
                obtain ⟨rfl, rfl⟩ := hN
                refine lv_sipush (v := (9999 : Int32)) hx hb dX11_step_176 (by decide) ?_
                obtain ⟨tv_58, tM_56, c_57, hf⟩ := x_bE hf
                refine x_sI C hw hl.1 [.int v_55, .int (9999 : Int32)] [.int (x2_5 + (7 : Int32)), .ref (g.2.2.1 (xr 1 k0 0))] (mX11_less l g c_57) lk_X11_195 (by decide) rfl (Nat.le_of_ble_eq_true rfl) ⟨Nat.zero_le _, Nat.zero_le _⟩ dX11_step_179 (fun v_58 M_56 H locs hN hw => ?_)
                obtain ⟨rfl, rfl⟩ := hN
                obtain ⟨q_59, hf⟩ := x_gE hf
                refine x_ast C hw h_14 q_59 dX11_step_182 (fun H locs hw => ?_)
                obtain ⟨M_60, eM_60⟩ : ∃ z, z = (x_up M_56 (xr 1 k0 0) (x2_5 + (7 : Int32)).toNatClampNeg v_58) := ⟨_, rfl⟩
                rw [← eM_60] at hw
                have hf := x_lE eM_60 hf
                exact hk183_31 _ _ _ _ (lv_sub hl [0, 1] rfl) hw hf
              refine lv_if_eq (tgt := 157) hx hb dX11_step_150 (by decide) (fun q_61 => ?_) (fun q_61 => ?_)
              · have hf := x_iP hf q_61
                refine lv_iconst (v := (0 : Int32)) hx hb dX11_step_157 (by decide) ?_
                exact hk158_46 _ _ _ _ _ (lv_sub hl [0, 1] rfl) hw hf
              · have hf := x_iN hf q_61
                refine lv_iconst (v := (1 : Int32)) hx hb dX11_step_153 (by decide) ?_
                refine lv_goto (tgt := 158) hx hb dX11_step_154 (by decide) ?_
                exact hk158_46 _ _ _ _ _ (lv_sub hl [0, 1] rfl) hw hf
          refine lv_icmp_ne (tgt := 87) hx hb dX11_step_71 (by decide) (fun q_62 => ?_) (fun q_62 => ?_)
          · have hf := x_iN hf q_62
            exact hk87_20 _ _ _ _ (lv_sub hl [0, 1, 2] rfl) hw hf
          · have hf := x_iP hf q_62
            refine lv_aload_n hx hb dX11_step_74 rfl (lv_at hl 1 rfl) ?_
            refine fg_X11_7 C hw h0 dX11_step_75 ?_
            refine lv_bipush (v := (21 : Int32)) hx hb dX11_step_78 (by decide) ?_
            obtain ⟨q_63, hf⟩ := x_gE hf
            refine x_ald C hw h_14 q_63 dX11_step_80 ?_
            refine lv_if_ne (tgt := 87) hx hb dX11_step_81 (by decide) (fun q_64 => ?_) (fun q_64 => ?_)
            · have hf := x_iN hf q_64
              exact hk87_20 _ _ _ _ (lv_sub hl [0, 1, 2] rfl) hw hf
            · have hf := x_iP hf q_64
              refine lv_ldc hx hb hown (hB _ mk_X11_69) dX11_step_84 ?_
              exact ret hf dX11_step_86 hw
  · have hf := x_iP hf q_4
    refine lv_ldc hx hb hown (hB _ mk_X11_60) dX11_step_8 ?_
    exact ret hf dX11_step_10 hw
def fX11_work (M : xM) (k0 : Nat) (a1 : Int32) (a2 : Int32) : Option (Int32 × xM) := x_b (fX11_isJudgment M k0 a1) fun v_3 M_1 => if v_3 = 0 then (some ((-1000000001 : Int32), M_1)) else (x_b (fX11_in M_1 a2 (1 : Int32) (9999 : Int32)) fun v_7 M_5 => if v_7 = 0 then (some ((-1000000001 : Int32), M_5)) else (x_l (((792 : Int32) + ((10 : Int32) * a1)) + (7 : Int32)) fun x3_9 => x_b (fX11_isTurned M_5 k0 a1) fun v_12 M_10 => if v_12 = 0 then (some ((-1000000002 : Int32), M_10)) else (x_g x3_9 (xn 1 (xr 1 k0 0)) (if a2 ≤ (M_10 (xr 1 k0 0) x3_9.toNatClampNeg) then (x_g x3_9 (xn 1 (xr 1 k0 0)) (x_g x3_9 (xn 1 (xr 1 k0 0)) (x_l (x_up M_10 (xr 1 k0 0) x3_9.toNatClampNeg ((M_10 (xr 1 k0 0) x3_9.toNatClampNeg) - a2)) fun M_19 => x_g x3_9 (xn 1 (xr 1 k0 0)) (some ((M_19 (xr 1 k0 0) x3_9.toNatClampNeg), M_19))))) else (some ((-1000000002 : Int32), M_10))))))
set_option maxRecDepth 100000 in
set_option maxHeartbeats 4000000 in
theorem mX11_work (l : Launch) (g : xG) {k0 : Nat} {a1 : Int32} {a2 : Int32} {r : Int32} {M' : xM} (h0 : x_is 1 k0 11) {M : xM} (hf : fX11_work M k0 a1 a2 = some (r, M')) : x_cI l g 1 yX11_work cX11_work 4 .int 2 43 [.ref (g.2.2.1 k0), .int a1, .int a2] M (fun v N => v = r ∧ N = M') := by
  refine x_stI RX11 (by decide) rfl (Nat.le_of_ble_eq_true rfl) ?_
  intro p e s m args below meth c Q ls C hw ret hl
  obtain ⟨hx, hb, hml, hown, hB, -⟩ := id C
  have hl : lv_has ls 4 [(0, .ref (g.2.2.1 k0)), (1, .int a1), (2, .int a2)] := hl
  unfold fX11_work at hf
  refine lv_aload_n hx hb dX11_work_0 rfl (lv_at hl 0 rfl) ?_
  refine lv_iload_n hx hb dX11_work_1 rfl (lv_at hl 1 rfl) ?_
  obtain ⟨tv_3, tM_1, c_2, hf⟩ := x_bE hf
  refine x_vI C hw hl.1 [.int a1] [] (mX11_isJudgment l g h0 c_2) lk_X11_221 h0 (by decide) rfl (by decide) rfl (Nat.le_of_ble_eq_true rfl) ⟨Nat.zero_le _, Nat.zero_le _⟩ dX11_work_2 (fun v_3 M_1 H locs hN hw => ?_)
  obtain ⟨rfl, rfl⟩ := hN
  refine lv_if_eq (tgt := 19) hx hb dX11_work_5 (by decide) (fun q_4 => ?_) (fun q_4 => ?_)
  · have hf := x_iP hf q_4
    refine lv_ldc hx hb hown (hB _ mk_X11_60) dX11_work_19 ?_
    exact ret hf dX11_work_21 hw
  · have hf := x_iN hf q_4
    refine lv_iload_n hx hb dX11_work_8 rfl (lv_at hl 2 rfl) ?_
    refine lv_iconst (v := (1 : Int32)) hx hb dX11_work_9 (by decide) ?_
    refine lv_sipush (v := (9999 : Int32)) hx hb dX11_work_10 (by decide) ?_
    obtain ⟨tv_7, tM_5, c_6, hf⟩ := x_bE hf
    refine x_sI C hw hl.1 [.int a2, .int (1 : Int32), .int (9999 : Int32)] [] (mX11_in l g c_6) lk_X11_56 (by decide) rfl (Nat.le_of_ble_eq_true rfl) ⟨Nat.zero_le _, Nat.zero_le _⟩ dX11_work_13 (fun v_7 M_5 H locs hN hw => ?_)
    obtain ⟨rfl, rfl⟩ := hN
    refine lv_if_ne (tgt := 22) hx hb dX11_work_16 (by decide) (fun q_8 => ?_) (fun q_8 => ?_)
    · have hf := x_iN hf q_8
      refine lv_sipush (v := (792 : Int32)) hx hb dX11_work_22 (by decide) ?_
      refine lv_bipush (v := (10 : Int32)) hx hb dX11_work_25 (by decide) ?_
      refine lv_iload_n hx hb dX11_work_27 rfl (lv_at hl 1 rfl) ?_
      refine lv_imul hx hb dX11_work_28 ?_
      refine lv_iadd hx hb dX11_work_29 ?_
      refine lv_bipush (v := (7 : Int32)) hx hb dX11_work_30 (by decide) ?_
      refine lv_iadd hx hb dX11_work_32 ?_
      refine lv_topi (fun x3_9 ex3_9 => ?_)
      have hf := x_lE ex3_9 hf
      refine lv_istore_n (lv' := [(3, .int x3_9), (0, .ref (g.2.2.1 k0)), (1, .int a1), (2, .int a2)]) hx hb dX11_work_33 rfl hl (by decide) rfl (fun ls hl => ?_)
      refine lv_aload_n hx hb dX11_work_34 rfl (lv_at hl 1 rfl) ?_
      refine lv_iload_n hx hb dX11_work_35 rfl (lv_at hl 2 rfl) ?_
      obtain ⟨tv_12, tM_10, c_11, hf⟩ := x_bE hf
      refine x_vI C hw hl.1 [.int a1] [] (mX11_isTurned l g h0 c_11) lk_X11_236 h0 (by decide) rfl (by decide) rfl (Nat.le_of_ble_eq_true rfl) ⟨Nat.zero_le _, Nat.zero_le _⟩ dX11_work_36 (fun v_12 M_10 H locs hN hw => ?_)
      obtain ⟨rfl, rfl⟩ := hN
      refine lv_if_eq (tgt := 52) hx hb dX11_work_39 (by decide) (fun q_13 => ?_) (fun q_13 => ?_)
      · have hf := x_iP hf q_13
        refine lv_ldc hx hb hown (hB _ mk_X11_69) dX11_work_52 ?_
        exact ret hf dX11_work_54 hw
      · have hf := x_iN hf q_13
        refine lv_aload_n hx hb dX11_work_42 rfl (lv_at hl 1 rfl) ?_
        refine fg_X11_7 C hw h0 dX11_work_43 ?_
        have h_14 : x_is 1 (xr 1 k0 0) 12 := x_tm h0 (by decide) rfl
        refine lv_iload_n hx hb dX11_work_46 rfl (lv_at hl 0 rfl) ?_
        obtain ⟨q_15, hf⟩ := x_gE hf
        refine x_ald C hw h_14 q_15 dX11_work_47 ?_
        refine lv_iload_n hx hb dX11_work_48 rfl (lv_at hl 3 rfl) ?_
        refine lv_icmp_ge (tgt := 55) hx hb dX11_work_49 (by decide) (fun q_16 => ?_) (fun q_16 => ?_)
        · have hf := x_iP hf q_16
          refine lv_aload_n hx hb dX11_work_55 rfl (lv_at hl 1 rfl) ?_
          refine fg_X11_7 C hw h0 dX11_work_56 ?_
          refine lv_iload_n hx hb dX11_work_59 rfl (lv_at hl 0 rfl) ?_
          refine lv_dup2_11 hx hb dX11_work_60 rfl rfl ?_
          obtain ⟨q_17, hf⟩ := x_gE hf
          refine x_ald C hw h_14 q_17 dX11_work_61 ?_
          refine lv_iload_n hx hb dX11_work_62 rfl (lv_at hl 3 rfl) ?_
          refine lv_isub hx hb dX11_work_63 ?_
          obtain ⟨q_18, hf⟩ := x_gE hf
          refine x_ast C hw h_14 q_18 dX11_work_64 (fun H locs hw => ?_)
          obtain ⟨M_19, eM_19⟩ : ∃ z, z = (x_up M_10 (xr 1 k0 0) x3_9.toNatClampNeg ((M_10 (xr 1 k0 0) x3_9.toNatClampNeg) - a2)) := ⟨_, rfl⟩
          rw [← eM_19] at hw
          have hf := x_lE eM_19 hf
          refine lv_aload_n hx hb dX11_work_65 rfl (lv_at hl 1 rfl) ?_
          refine fg_X11_7 C hw h0 dX11_work_66 ?_
          refine lv_iload_n hx hb dX11_work_69 rfl (lv_at hl 0 rfl) ?_
          obtain ⟨q_20, hf⟩ := x_gE hf
          refine x_ald C hw h_14 q_20 dX11_work_70 ?_
          exact ret hf dX11_work_71 hw
        · have hf := x_iN hf q_16
          refine lv_ldc hx hb hown (hB _ mk_X11_69) dX11_work_52 ?_
          exact ret hf dX11_work_54 hw
    · have hf := x_iP hf q_8
      refine lv_ldc hx hb hown (hB _ mk_X11_60) dX11_work_19 ?_
      exact ret hf dX11_work_21 hw
def fX11_roomOf (M : xM) (k0 : Nat) (a1 : Int32) (a2 : Int32) : Option (Int32 × xM) := x_g (0 : Int32) (xn 1 (xr 1 k0 0)) (x_l ((M (xr 1 k0 0) (0 : Int32).toNatClampNeg) + ((30 : Int32) * a2)) fun x3_3 => x_g (0 : Int32) (xn 1 (xr 1 k0 0)) (x_b (fX11_earns M k0 a1 x3_3 (M (xr 1 k0 0) (0 : Int32).toNatClampNeg)) fun v_7 M_5 => x_g (14 : Int32) (xn 1 (xr 1 k0 0)) (x_g (0 : Int32) (xn 1 (xr 1 k0 0)) (x_b (fX11_whatOf M_5 k0 a1 (1 : Int32) x3_3 (M_5 (xr 1 k0 0) (0 : Int32).toNatClampNeg)) fun v_12 M_10 => x_g (0 : Int32) (xn 1 (xr 1 k0 0)) (x_b (fX11_whatOf M_10 k0 a1 (3 : Int32) x3_3 (M_10 (xr 1 k0 0) (0 : Int32).toNatClampNeg)) fun v_16 M_14 => x_l ((v_7 - ((M_5 (xr 1 k0 0) (14 : Int32).toNatClampNeg) * ((1 : Int32) + v_12))) - v_16) fun x4_17 => if 0 < x4_17 then (x_g (15 : Int32) (xn 1 (xr 1 k0 0)) (x_d (100 : Int32) (some (((x4_17 * (M_14 (xr 1 k0 0) (15 : Int32).toNatClampNeg)) / (100 : Int32)), M_14)))) else (some ((0 : Int32), M_14)))))))
set_option maxRecDepth 100000 in
set_option maxHeartbeats 4000000 in
theorem mX11_roomOf (l : Launch) (g : xG) {k0 : Nat} {a1 : Int32} {a2 : Int32} {r : Int32} {M' : xM} (h0 : x_is 1 k0 11) {M : xM} (hf : fX11_roomOf M k0 a1 a2 = some (r, M')) : x_cI l g 1 yX11_roomOf cX11_roomOf 5 .int 3 78 [.ref (g.2.2.1 k0), .int a1, .int a2] M (fun v N => v = r ∧ N = M') := by
  refine x_stI RX11 (by decide) rfl (Nat.le_of_ble_eq_true rfl) ?_
  intro p e s m args below meth c Q ls C hw ret hl
  obtain ⟨hx, hb, hml, hown, hB, -⟩ := id C
  have hl : lv_has ls 5 [(0, .ref (g.2.2.1 k0)), (1, .int a1), (2, .int a2)] := hl
  unfold fX11_roomOf at hf
  refine lv_aload_n hx hb dX11_roomOf_0 rfl (lv_at hl 0 rfl) ?_
  refine fg_X11_7 C hw h0 dX11_roomOf_1 ?_
  have h_1 : x_is 1 (xr 1 k0 0) 12 := x_tm h0 (by decide) rfl
  refine lv_iconst (v := (0 : Int32)) hx hb dX11_roomOf_4 (by decide) ?_
  obtain ⟨q_2, hf⟩ := x_gE hf
  refine x_ald C hw h_1 q_2 dX11_roomOf_5 ?_
  refine lv_bipush (v := (30 : Int32)) hx hb dX11_roomOf_6 (by decide) ?_
  refine lv_iload_n hx hb dX11_roomOf_8 rfl (lv_at hl 2 rfl) ?_
  refine lv_imul hx hb dX11_roomOf_9 ?_
  refine lv_iadd hx hb dX11_roomOf_10 ?_
  refine lv_topi (fun x3_3 ex3_3 => ?_)
  have hf := x_lE ex3_3 hf
  refine lv_istore_n (lv' := [(3, .int x3_3), (0, .ref (g.2.2.1 k0)), (1, .int a1), (2, .int a2)]) hx hb dX11_roomOf_11 rfl hl (by decide) rfl (fun ls hl => ?_)
  refine lv_aload_n hx hb dX11_roomOf_12 rfl (lv_at hl 1 rfl) ?_
  refine lv_iload_n hx hb dX11_roomOf_13 rfl (lv_at hl 2 rfl) ?_
  refine lv_iload_n hx hb dX11_roomOf_14 rfl (lv_at hl 0 rfl) ?_
  refine lv_aload_n hx hb dX11_roomOf_15 rfl (lv_at hl 1 rfl) ?_
  refine fg_X11_7 C hw h0 dX11_roomOf_16 ?_
  refine lv_iconst (v := (0 : Int32)) hx hb dX11_roomOf_19 (by decide) ?_
  obtain ⟨q_4, hf⟩ := x_gE hf
  refine x_ald C hw h_1 q_4 dX11_roomOf_20 ?_
  obtain ⟨tv_7, tM_5, c_6, hf⟩ := x_bE hf
  refine x_vI C hw hl.1 [.int a1, .int x3_3, .int (M (xr 1 k0 0) (0 : Int32).toNatClampNeg)] [] (mX11_earns l g h0 c_6) lk_X11_83 h0 (by decide) rfl (by decide) rfl (Nat.le_of_ble_eq_true rfl) ⟨Nat.zero_le _, Nat.zero_le _⟩ dX11_roomOf_21 (fun v_7 M_5 H locs hN hw => ?_)
  obtain ⟨rfl, rfl⟩ := hN
  refine lv_aload_n hx hb dX11_roomOf_24 rfl (lv_at hl 1 rfl) ?_
  refine fg_X11_7 C hw h0 dX11_roomOf_25 ?_
  refine lv_bipush (v := (14 : Int32)) hx hb dX11_roomOf_28 (by decide) ?_
  obtain ⟨q_8, hf⟩ := x_gE hf
  refine x_ald C hw h_1 q_8 dX11_roomOf_30 ?_
  refine lv_iconst (v := (1 : Int32)) hx hb dX11_roomOf_31 (by decide) ?_
  refine lv_aload_n hx hb dX11_roomOf_32 rfl (lv_at hl 1 rfl) ?_
  refine lv_iload_n hx hb dX11_roomOf_33 rfl (lv_at hl 2 rfl) ?_
  refine lv_iconst (v := (1 : Int32)) hx hb dX11_roomOf_34 (by decide) ?_
  refine lv_iload_n hx hb dX11_roomOf_35 rfl (lv_at hl 0 rfl) ?_
  refine lv_aload_n hx hb dX11_roomOf_36 rfl (lv_at hl 1 rfl) ?_
  refine fg_X11_7 C hw h0 dX11_roomOf_37 ?_
  refine lv_iconst (v := (0 : Int32)) hx hb dX11_roomOf_40 (by decide) ?_
  obtain ⟨q_9, hf⟩ := x_gE hf
  refine x_ald C hw h_1 q_9 dX11_roomOf_41 ?_
  obtain ⟨tv_12, tM_10, c_11, hf⟩ := x_bE hf
  refine x_vI C hw hl.1 [.int a1, .int (1 : Int32), .int x3_3, .int (M_5 (xr 1 k0 0) (0 : Int32).toNatClampNeg)] [.int (1 : Int32), .int (M_5 (xr 1 k0 0) (14 : Int32).toNatClampNeg), .int v_7] (mX11_whatOf l g h0 c_11) lk_X11_71 h0 (by decide) rfl (by decide) rfl (Nat.le_of_ble_eq_true rfl) ⟨Nat.zero_le _, Nat.zero_le _⟩ dX11_roomOf_42 (fun v_12 M_10 H locs hN hw => ?_)
  obtain ⟨rfl, rfl⟩ := hN
  refine lv_iadd hx hb dX11_roomOf_45 ?_
  refine lv_imul hx hb dX11_roomOf_46 ?_
  refine lv_isub hx hb dX11_roomOf_47 ?_
  refine lv_aload_n hx hb dX11_roomOf_48 rfl (lv_at hl 1 rfl) ?_
  refine lv_iload_n hx hb dX11_roomOf_49 rfl (lv_at hl 2 rfl) ?_
  refine lv_iconst (v := (3 : Int32)) hx hb dX11_roomOf_50 (by decide) ?_
  refine lv_iload_n hx hb dX11_roomOf_51 rfl (lv_at hl 0 rfl) ?_
  refine lv_aload_n hx hb dX11_roomOf_52 rfl (lv_at hl 1 rfl) ?_
  refine fg_X11_7 C hw h0 dX11_roomOf_53 ?_
  refine lv_iconst (v := (0 : Int32)) hx hb dX11_roomOf_56 (by decide) ?_
  obtain ⟨q_13, hf⟩ := x_gE hf
  refine x_ald C hw h_1 q_13 dX11_roomOf_57 ?_
  obtain ⟨tv_16, tM_14, c_15, hf⟩ := x_bE hf
  refine x_vI C hw hl.1 [.int a1, .int (3 : Int32), .int x3_3, .int (M_10 (xr 1 k0 0) (0 : Int32).toNatClampNeg)] [.int (v_7 - ((M_5 (xr 1 k0 0) (14 : Int32).toNatClampNeg) * ((1 : Int32) + v_12)))] (mX11_whatOf l g h0 c_15) lk_X11_71 h0 (by decide) rfl (by decide) rfl (Nat.le_of_ble_eq_true rfl) ⟨Nat.zero_le _, Nat.zero_le _⟩ dX11_roomOf_58 (fun v_16 M_14 H locs hN hw => ?_)
  obtain ⟨rfl, rfl⟩ := hN
  refine lv_isub hx hb dX11_roomOf_61 ?_
  refine lv_topi (fun x4_17 ex4_17 => ?_)
  have hf := x_lE ex4_17 hf
  refine lv_istore (lv' := [(4, .int x4_17), (3, .int x3_3), (0, .ref (g.2.2.1 k0)), (1, .int a1), (2, .int a2)]) hx hb dX11_roomOf_62 hl (by decide) rfl (fun ls hl => ?_)
  refine lv_iload hx hb dX11_roomOf_64 (lv_at hl 0 rfl) ?_
  refine lv_if_gt (tgt := 73) hx hb dX11_roomOf_66 (by decide) (fun q_18 => ?_) (fun q_18 => ?_)
  · have hf := x_iP hf q_18
    refine lv_iload hx hb dX11_roomOf_73 (lv_at hl 0 rfl) ?_
    refine lv_aload_n hx hb dX11_roomOf_75 rfl (lv_at hl 2 rfl) ?_
    refine fg_X11_7 C hw h0 dX11_roomOf_76 ?_
    refine lv_bipush (v := (15 : Int32)) hx hb dX11_roomOf_79 (by decide) ?_
    obtain ⟨q_19, hf⟩ := x_gE hf
    refine x_ald C hw h_1 q_19 dX11_roomOf_81 ?_
    refine lv_imul hx hb dX11_roomOf_82 ?_
    refine lv_bipush (v := (100 : Int32)) hx hb dX11_roomOf_83 (by decide) ?_
    obtain ⟨q_20, hf⟩ := x_dE hf
    refine lv_idiv hx hb dX11_roomOf_85 q_20 ?_
    exact ret hf dX11_roomOf_86 hw
  · have hf := x_iN hf q_18
    refine lv_iconst (v := (0 : Int32)) hx hb dX11_roomOf_69 (by decide) ?_
    refine lv_goto (tgt := 86) hx hb dX11_roomOf_70 (by decide) ?_
    exact ret hf dX11_roomOf_86 hw
def fX11_findDues_L110 (k0 : Nat) (x3_26 : Int32) (k166_29 : xM → Int32 → Option (xM)) : Nat → xM → Int32 → Option (xM)
  | 0, _, _ => none
  | n_43 + 1, M_42, x4_41 => if x4_41 ≤ 0 then (k166_29 M_42 x4_41) else (x_g (x4_41 - (1 : Int32)) (xn 1 (xr 1 k0 22)) (if (M_42 (xr 1 k0 22) (x4_41 - (1 : Int32)).toNatClampNeg) ≤ x3_26 then (k166_29 M_42 x4_41) else (x_g (x4_41 - (1 : Int32)) (xn 1 (xr 1 k0 22)) (x_g x4_41 (xn 1 (xr 1 k0 22)) (x_l (x_up M_42 (xr 1 k0 22) x4_41.toNatClampNeg (M_42 (xr 1 k0 22) (x4_41 - (1 : Int32)).toNatClampNeg)) fun M_51 => x_g (x4_41 - (1 : Int32)) (xn 1 (xr 1 k0 23)) (x_g x4_41 (xn 1 (xr 1 k0 23)) (x_l (x_up M_51 (xr 1 k0 23) x4_41.toNatClampNeg (M_51 (xr 1 k0 23) (x4_41 - (1 : Int32)).toNatClampNeg)) fun M_55 => x_l (x4_41 + (-1 : Int32)) fun x4_56 => fX11_findDues_L110 k0 x3_26 k166_29 n_43 M_55 x4_56)))))))
def fX11_findDues_L33 (k0 : Nat) (a1 : Int32) : Nat → xM → Int32 → Option (xM)
  | 0, _, _ => none
  | n_6 + 1, M_5, x2_4 => x_g (20 : Int32) (xn 1 (xr 1 k0 0)) (if (M_5 (xr 1 k0 0) (20 : Int32).toNatClampNeg) ≤ x2_4 then (some M_5) else (x_g ((792 : Int32) + ((10 : Int32) * x2_4)) (xn 1 (xr 1 k0 0)) (x_l (fun (M_13 : xM) => x_l (x2_4 + (1 : Int32)) fun x2_14 => fX11_findDues_L33 k0 a1 n_6 M_13 x2_14) fun k196_12 => if (M_5 (xr 1 k0 0) ((792 : Int32) + ((10 : Int32) * x2_4)).toNatClampNeg) = a1 then (x_b (fX11_unpaid M_5 k0 x2_4) fun v_18 M_16 => if v_18 = 0 then (k196_12 M_16) else (x_b (fX11_isTurned M_16 k0 x2_4) fun v_22 M_20 => if v_22 = 0 then (x_g (((792 : Int32) + ((10 : Int32) * x2_4)) + (1 : Int32)) (xn 1 (xr 1 k0 0)) (x_g (13 : Int32) (xn 1 (xr 1 k0 0)) (x_l ((M_20 (xr 1 k0 0) (((792 : Int32) + ((10 : Int32) * x2_4)) + (1 : Int32)).toNatClampNeg) + (M_20 (xr 1 k0 0) (13 : Int32).toNatClampNeg)) fun x3_26 => x_l (M_20 k0 24) fun x4_27 => x_l (fun (M_30 : xM) (x4_28 : Int32) => x_g x4_28 (xn 1 (xr 1 k0 22)) (x_l (x_up M_30 (xr 1 k0 22) x4_28.toNatClampNeg x3_26) fun M_33 => x_b (fX11_unpaid M_33 k0 x2_4) fun v_37 M_35 => x_g x4_28 (xn 1 (xr 1 k0 23)) (x_l (x_up M_35 (xr 1 k0 23) x4_28.toNatClampNeg v_37) fun M_39 => x_l (x_up M_39 k0 24 ((M_39 k0 24) + (1 : Int32))) fun M_40 => k196_12 M_40))) fun k166_29 => fX11_findDues_L110 k0 x3_26 k166_29 x_FU M_20 x4_27))) else (k196_12 M_20))) else (k196_12 M_5))))
def fX11_findDues_L2 (k0 : Nat) (a1 : Int32) (k26_1 : xM → Option (xM)) : Nat → xM → Int32 → Option (xM)
  | 0, _, _ => none
  | n_61 + 1, M_60, x2_59 => if (24 : Int32) ≤ x2_59 then (k26_1 M_60) else (x_b (fX11_roomOf M_60 k0 a1 x2_59) fun v_67 M_65 => x_g x2_59 (xn 1 (xr 1 k0 21)) (x_l (x_up M_65 (xr 1 k0 21) x2_59.toNatClampNeg v_67) fun M_69 => x_l (x2_59 + (1 : Int32)) fun x2_70 => fX11_findDues_L2 k0 a1 k26_1 n_61 M_69 x2_70))
def fX11_findDues (M : xM) (k0 : Nat) (a1 : Int32) : Option (xM) := x_l (fun (M_2 : xM) => x_l (x_up M_2 k0 24 (0 : Int32)) fun M_3 => fX11_findDues_L33 k0 a1 x_FU M_3 (0 : Int32)) fun k26_1 => fX11_findDues_L2 k0 a1 k26_1 x_FU M (0 : Int32)
set_option maxRecDepth 100000 in
set_option maxHeartbeats 4000000 in
theorem mX11_findDues (l : Launch) (g : xG) {k0 : Nat} {a1 : Int32} {M' : xM} (h0 : x_is 1 k0 11) {M : xM} (hf : fX11_findDues M k0 a1 = some M') : x_cV l g 1 yX11_findDues cX11_findDues 5 4 102 [.ref (g.2.2.1 k0), .int a1] M (fun N => N = M') := by
  refine x_stV RX11 (by decide) rfl (Nat.le_of_ble_eq_true rfl) ?_
  intro p e s m args below meth c Q ls C hw ret hl
  obtain ⟨hx, hb, hml, hown, hB, -⟩ := id C
  have hl : lv_has ls 5 [(0, .ref (g.2.2.1 k0)), (1, .int a1)] := hl
  unfold fX11_findDues at hf
  refine lv_iconst (v := (0 : Int32)) hx hb dX11_findDues_0 (by decide) ?_
  refine lv_istore_n (lv' := [(2, .int (0 : Int32)), (0, .ref (g.2.2.1 k0)), (1, .int a1)]) hx hb dX11_findDues_1 rfl hl (by decide) rfl (fun ls hl => ?_)
  obtain ⟨k26_1, ek26_1, hf⟩ := x_jE hf
  have hk26_1 : ∀ (H : Heap) (locs : List Loc) (M_2 : xM)  (ls : Array Slot) , lv_has ls 5 [(0, .ref (g.2.2.1 k0)), (1, .int a1)] → x_w g 1 s H locs M_2 → k26_1 M_2 = some M' → W p l e (x_rm 4 102) s m args below meth c H locs 0 0 Q (F0 m 26 ls []) := by
    intro H locs M_2  ls  hl hw hf
    rw [ek26_1] at hf
    refine lv_aload_n hx hb dX11_findDues_26 rfl (lv_at hl 0 rfl) ?_
    refine lv_iconst (v := (0 : Int32)) hx hb dX11_findDues_27 (by decide) ?_
    refine fp_X11_244 C hw h0 dX11_findDues_28 (fun H locs hw => ?_)
    obtain ⟨M_3, eM_3⟩ : ∃ z, z = (x_up M_2 k0 24 (0 : Int32)) := ⟨_, rfl⟩
    rw [← eM_3] at hw
    have hf := x_lE eM_3 hf
    refine lv_iconst (v := (0 : Int32)) hx hb dX11_findDues_31 (by decide) ?_
    refine lv_istore_n (lv' := [(2, .int (0 : Int32)), (0, .ref (g.2.2.1 k0)), (1, .int a1)]) hx hb dX11_findDues_32 rfl hl (by decide) rfl (fun ls hl => ?_)
    have hL_58 : ∀ (n_6 : Nat) (H : Heap) (locs : List Loc) (M_5 : xM) (x2_4 : Int32) (ls : Array Slot) , lv_has ls 5 [(0, .ref (g.2.2.1 k0)), (1, .int a1), (2, .int x2_4)] → x_w g 1 s H locs M_5 → fX11_findDues_L33 k0 a1 n_6 M_5 x2_4 = some M' → W p l e (x_rm 4 102) s m args below meth c H locs 0 0 Q (F0 m 33 ls []) := by
      intro n_6
      induction n_6 with
      | zero =>
        intro H locs M_5 x2_4 ls  hl hw hf
        rw [fX11_findDues_L33] at hf
        cases hf
      | succ n_6 ih_7 =>
        intro H locs M_5 x2_4 ls  hl hw hf
        rw [fX11_findDues_L33] at hf
        refine lv_iload_n hx hb dX11_findDues_33 rfl (lv_at hl 2 rfl) ?_
        refine lv_aload_n hx hb dX11_findDues_34 rfl (lv_at hl 0 rfl) ?_
        refine fg_X11_7 C hw h0 dX11_findDues_35 ?_
        have h_8 : x_is 1 (xr 1 k0 0) 12 := x_tm h0 (by decide) rfl
        refine lv_bipush (v := (20 : Int32)) hx hb dX11_findDues_38 (by decide) ?_
        obtain ⟨q_9, hf⟩ := x_gE hf
        refine x_ald C hw h_8 q_9 dX11_findDues_40 ?_
        refine lv_icmp_ge (tgt := 202) hx hb dX11_findDues_41 (by decide) (fun q_10 => ?_) (fun q_10 => ?_)
        · have hf := x_iP hf q_10
          exact ret hf dX11_findDues_202 hw
        · have hf := x_iN hf q_10
          refine lv_aload_n hx hb dX11_findDues_44 rfl (lv_at hl 0 rfl) ?_
          refine fg_X11_7 C hw h0 dX11_findDues_45 ?_
          refine lv_sipush (v := (792 : Int32)) hx hb dX11_findDues_48 (by decide) ?_
          refine lv_bipush (v := (10 : Int32)) hx hb dX11_findDues_51 (by decide) ?_
          refine lv_iload_n hx hb dX11_findDues_53 rfl (lv_at hl 2 rfl) ?_
          refine lv_imul hx hb dX11_findDues_54 ?_
          refine lv_iadd hx hb dX11_findDues_55 ?_
          obtain ⟨q_11, hf⟩ := x_gE hf
          refine x_ald C hw h_8 q_11 dX11_findDues_56 ?_
          refine lv_iload_n hx hb dX11_findDues_57 rfl (lv_at hl 1 rfl) ?_
          obtain ⟨k196_12, ek196_12, hf⟩ := x_jE hf
          have hk196_12 : ∀ (H : Heap) (locs : List Loc) (M_13 : xM)  (ls : Array Slot) , lv_has ls 5 [(0, .ref (g.2.2.1 k0)), (1, .int a1), (2, .int x2_4)] → x_w g 1 s H locs M_13 → k196_12 M_13 = some M' → W p l e (x_rm 4 102) s m args below meth c H locs 0 0 Q (F0 m 196 ls []) := by
            intro H locs M_13  ls  hl hw hf
            rw [ek196_12] at hf
            obtain ⟨x2_14, ex2_14⟩ : ∃ z : Int32, z = (x2_4 + (1 : Int32)) := ⟨_, rfl⟩
            have hf := x_lE ex2_14 hf
            refine lv_iinc (v := x2_14) (lv' := [(2, .int x2_14), (0, .ref (g.2.2.1 k0)), (1, .int a1)]) hx hb dX11_findDues_196 hl (k := 2) rfl (by rw [ex2_14]; rfl) (by decide) rfl (fun ls hl => ?_)
            refine lv_goto (tgt := 33) hx hb dX11_findDues_199 (by decide) ?_
            exact ih_7 _ _ _ _ _ (lv_sub hl [1, 2, 0] rfl) hw hf
          refine lv_icmp_ne (tgt := 196) hx hb dX11_findDues_58 (by decide) (fun q_15 => ?_) (fun q_15 => ?_)
          · have hf := x_iN hf q_15
            exact hk196_12 _ _ _ _ (lv_sub hl [0, 1, 2] rfl) hw hf
          · have hf := x_iP hf q_15
            refine lv_aload_n hx hb dX11_findDues_61 rfl (lv_at hl 0 rfl) ?_
            refine lv_iload_n hx hb dX11_findDues_62 rfl (lv_at hl 2 rfl) ?_
            obtain ⟨tv_18, tM_16, c_17, hf⟩ := x_bE hf
            refine x_vI C hw hl.1 [.int x2_4] [] (mX11_unpaid l g h0 c_17) lk_X11_210 h0 (by decide) rfl (by decide) rfl (Nat.le_of_ble_eq_true rfl) ⟨Nat.zero_le _, Nat.zero_le _⟩ dX11_findDues_63 (fun v_18 M_16 H locs hN hw => ?_)
            obtain ⟨rfl, rfl⟩ := hN
            refine lv_if_eq (tgt := 196) hx hb dX11_findDues_66 (by decide) (fun q_19 => ?_) (fun q_19 => ?_)
            · have hf := x_iP hf q_19
              exact hk196_12 _ _ _ _ (lv_sub hl [0, 1, 2] rfl) hw hf
            · have hf := x_iN hf q_19
              refine lv_aload_n hx hb dX11_findDues_69 rfl (lv_at hl 0 rfl) ?_
              refine lv_iload_n hx hb dX11_findDues_70 rfl (lv_at hl 2 rfl) ?_
              obtain ⟨tv_22, tM_20, c_21, hf⟩ := x_bE hf
              refine x_vI C hw hl.1 [.int x2_4] [] (mX11_isTurned l g h0 c_21) lk_X11_236 h0 (by decide) rfl (by decide) rfl (Nat.le_of_ble_eq_true rfl) ⟨Nat.zero_le _, Nat.zero_le _⟩ dX11_findDues_71 (fun v_22 M_20 H locs hN hw => ?_)
              obtain ⟨rfl, rfl⟩ := hN
              refine lv_if_eq (tgt := 80) hx hb dX11_findDues_74 (by decide) (fun q_23 => ?_) (fun q_23 => ?_)
              · have hf := x_iP hf q_23
                refine lv_aload_n hx hb dX11_findDues_80 rfl (lv_at hl 0 rfl) ?_
                refine fg_X11_7 C hw h0 dX11_findDues_81 ?_
                refine lv_sipush (v := (792 : Int32)) hx hb dX11_findDues_84 (by decide) ?_
                refine lv_bipush (v := (10 : Int32)) hx hb dX11_findDues_87 (by decide) ?_
                refine lv_iload_n hx hb dX11_findDues_89 rfl (lv_at hl 2 rfl) ?_
                refine lv_imul hx hb dX11_findDues_90 ?_
                refine lv_iadd hx hb dX11_findDues_91 ?_
                refine lv_iconst (v := (1 : Int32)) hx hb dX11_findDues_92 (by decide) ?_
                refine lv_iadd hx hb dX11_findDues_93 ?_
                obtain ⟨q_24, hf⟩ := x_gE hf
                refine x_ald C hw h_8 q_24 dX11_findDues_94 ?_
                refine lv_aload_n hx hb dX11_findDues_95 rfl (lv_at hl 0 rfl) ?_
                refine fg_X11_7 C hw h0 dX11_findDues_96 ?_
                refine lv_bipush (v := (13 : Int32)) hx hb dX11_findDues_99 (by decide) ?_
                obtain ⟨q_25, hf⟩ := x_gE hf
                refine x_ald C hw h_8 q_25 dX11_findDues_101 ?_
                refine lv_iadd hx hb dX11_findDues_102 ?_
                refine lv_topi (fun x3_26 ex3_26 => ?_)
                have hf := x_lE ex3_26 hf
                refine lv_istore_n (lv' := [(3, .int x3_26), (0, .ref (g.2.2.1 k0)), (1, .int a1), (2, .int x2_4)]) hx hb dX11_findDues_103 rfl hl (by decide) rfl (fun ls hl => ?_)
                refine lv_aload_n hx hb dX11_findDues_104 rfl (lv_at hl 1 rfl) ?_
                refine fg_X11_244 C hw h0 dX11_findDues_105 ?_
                refine lv_topi (fun x4_27 ex4_27 => ?_)
                have hf := x_lE ex4_27 hf
                refine lv_istore (lv' := [(4, .int x4_27), (3, .int x3_26), (0, .ref (g.2.2.1 k0)), (1, .int a1), (2, .int x2_4)]) hx hb dX11_findDues_108 hl (by decide) rfl (fun ls hl => ?_)
                obtain ⟨k166_29, ek166_29, hf⟩ := x_jE hf
                have hk166_29 : ∀ (H : Heap) (locs : List Loc) (M_30 : xM) (x4_28 : Int32) (ls : Array Slot) , lv_has ls 5 [(3, .int x3_26), (0, .ref (g.2.2.1 k0)), (1, .int a1), (2, .int x2_4), (4, .int x4_28)] → x_w g 1 s H locs M_30 → k166_29 M_30 x4_28 = some M' → W p l e (x_rm 4 102) s m args below meth c H locs 0 0 Q (F0 m 166 ls []) := by
                  intro H locs M_30 x4_28 ls  hl hw hf
                  rw [ek166_29] at hf
                  refine lv_aload_n hx hb dX11_findDues_166 rfl (lv_at hl 1 rfl) ?_
                  refine fg_X11_34 C hw h0 dX11_findDues_167 ?_
                  have h_31 : x_is 1 (xr 1 k0 22) 12 := x_tm h0 (by decide) rfl
                  refine lv_iload hx hb dX11_findDues_170 (lv_at hl 4 rfl) ?_
                  refine lv_iload_n hx hb dX11_findDues_172 rfl (lv_at hl 0 rfl) ?_
                  obtain ⟨q_32, hf⟩ := x_gE hf
                  refine x_ast C hw h_31 q_32 dX11_findDues_173 (fun H locs hw => ?_)
                  obtain ⟨M_33, eM_33⟩ : ∃ z, z = (x_up M_30 (xr 1 k0 22) x4_28.toNatClampNeg x3_26) := ⟨_, rfl⟩
                  rw [← eM_33] at hw
                  have hf := x_lE eM_33 hf
                  refine lv_aload_n hx hb dX11_findDues_174 rfl (lv_at hl 1 rfl) ?_
                  refine fg_X11_37 C hw h0 dX11_findDues_175 ?_
                  have h_34 : x_is 1 (xr 1 k0 23) 12 := x_tm h0 (by decide) rfl
                  refine lv_iload hx hb dX11_findDues_178 (lv_at hl 4 rfl) ?_
                  refine lv_aload_n hx hb dX11_findDues_180 rfl (lv_at hl 1 rfl) ?_
                  refine lv_iload_n hx hb dX11_findDues_181 rfl (lv_at hl 3 rfl) ?_
                  obtain ⟨tv_37, tM_35, c_36, hf⟩ := x_bE hf
                  refine x_vI C hw hl.1 [.int x2_4] [.int x4_28, .ref (g.2.2.1 (xr 1 k0 23))] (mX11_unpaid l g h0 c_36) lk_X11_210 h0 (by decide) rfl (by decide) rfl (Nat.le_of_ble_eq_true rfl) ⟨Nat.zero_le _, Nat.zero_le _⟩ dX11_findDues_182 (fun v_37 M_35 H locs hN hw => ?_)
                  obtain ⟨rfl, rfl⟩ := hN
                  obtain ⟨q_38, hf⟩ := x_gE hf
                  refine x_ast C hw h_34 q_38 dX11_findDues_185 (fun H locs hw => ?_)
                  obtain ⟨M_39, eM_39⟩ : ∃ z, z = (x_up M_35 (xr 1 k0 23) x4_28.toNatClampNeg v_37) := ⟨_, rfl⟩
                  rw [← eM_39] at hw
                  have hf := x_lE eM_39 hf
                  refine lv_aload_n hx hb dX11_findDues_186 rfl (lv_at hl 1 rfl) ?_
                  refine lv_dup hx hb dX11_findDues_187 rfl ?_
                  refine fg_X11_244 C hw h0 dX11_findDues_188 ?_
                  refine lv_iconst (v := (1 : Int32)) hx hb dX11_findDues_191 (by decide) ?_
                  refine lv_iadd hx hb dX11_findDues_192 ?_
                  refine fp_X11_244 C hw h0 dX11_findDues_193 (fun H locs hw => ?_)
                  obtain ⟨M_40, eM_40⟩ : ∃ z, z = (x_up M_39 k0 24 ((M_39 k0 24) + (1 : Int32))) := ⟨_, rfl⟩
                  rw [← eM_40] at hw
                  have hf := x_lE eM_40 hf
                  exact hk196_12 _ _ _ _ (lv_sub hl [1, 2, 3] rfl) hw hf
                have hL_57 : ∀ (n_43 : Nat) (H : Heap) (locs : List Loc) (M_42 : xM) (x4_41 : Int32) (ls : Array Slot) , lv_has ls 5 [(3, .int x3_26), (0, .ref (g.2.2.1 k0)), (1, .int a1), (2, .int x2_4), (4, .int x4_41)] → x_w g 1 s H locs M_42 → fX11_findDues_L110 k0 x3_26 k166_29 n_43 M_42 x4_41 = some M' → W p l e (x_rm 4 102) s m args below meth c H locs 0 0 Q (F0 m 110 ls []) := by
                  intro n_43
                  induction n_43 with
                  | zero =>
                    intro H locs M_42 x4_41 ls  hl hw hf
                    rw [fX11_findDues_L110] at hf
                    cases hf
                  | succ n_43 ih_44 =>
                    intro H locs M_42 x4_41 ls  hl hw hf
                    rw [fX11_findDues_L110] at hf
                    refine lv_iload hx hb dX11_findDues_110 (lv_at hl 4 rfl) ?_
                    refine lv_if_le (tgt := 166) hx hb dX11_findDues_112 (by decide) (fun q_45 => ?_) (fun q_45 => ?_)
                    · have hf := x_iP hf q_45
                      exact hk166_29 _ _ _ _ _ (lv_sub hl [0, 1, 2, 3, 4] rfl) hw hf
                    · have hf := x_iN hf q_45
                      refine lv_aload_n hx hb dX11_findDues_115 rfl (lv_at hl 1 rfl) ?_
                      refine fg_X11_34 C hw h0 dX11_findDues_116 ?_
                      have h_46 : x_is 1 (xr 1 k0 22) 12 := x_tm h0 (by decide) rfl
                      refine lv_iload hx hb dX11_findDues_119 (lv_at hl 4 rfl) ?_
                      refine lv_iconst (v := (1 : Int32)) hx hb dX11_findDues_121 (by decide) ?_
                      refine lv_isub hx hb dX11_findDues_122 ?_
                      obtain ⟨q_47, hf⟩ := x_gE hf
                      refine x_ald C hw h_46 q_47 dX11_findDues_123 ?_
                      refine lv_iload_n hx hb dX11_findDues_124 rfl (lv_at hl 0 rfl) ?_
                      refine lv_icmp_le (tgt := 166) hx hb dX11_findDues_125 (by decide) (fun q_48 => ?_) (fun q_48 => ?_)
                      · have hf := x_iP hf q_48
                        exact hk166_29 _ _ _ _ _ (lv_sub hl [0, 1, 2, 3, 4] rfl) hw hf
                      · have hf := x_iN hf q_48
                        refine lv_aload_n hx hb dX11_findDues_128 rfl (lv_at hl 1 rfl) ?_
                        refine fg_X11_34 C hw h0 dX11_findDues_129 ?_
                        refine lv_iload hx hb dX11_findDues_132 (lv_at hl 4 rfl) ?_
                        refine lv_aload_n hx hb dX11_findDues_134 rfl (lv_at hl 1 rfl) ?_
                        refine fg_X11_34 C hw h0 dX11_findDues_135 ?_
                        refine lv_iload hx hb dX11_findDues_138 (lv_at hl 4 rfl) ?_
                        refine lv_iconst (v := (1 : Int32)) hx hb dX11_findDues_140 (by decide) ?_
                        refine lv_isub hx hb dX11_findDues_141 ?_
                        obtain ⟨q_49, hf⟩ := x_gE hf
                        refine x_ald C hw h_46 q_49 dX11_findDues_142 ?_
                        obtain ⟨q_50, hf⟩ := x_gE hf
                        refine x_ast C hw h_46 q_50 dX11_findDues_143 (fun H locs hw => ?_)
                        obtain ⟨M_51, eM_51⟩ : ∃ z, z = (x_up M_42 (xr 1 k0 22) x4_41.toNatClampNeg (M_42 (xr 1 k0 22) (x4_41 - (1 : Int32)).toNatClampNeg)) := ⟨_, rfl⟩
                        rw [← eM_51] at hw
                        have hf := x_lE eM_51 hf
                        refine lv_aload_n hx hb dX11_findDues_144 rfl (lv_at hl 1 rfl) ?_
                        refine fg_X11_37 C hw h0 dX11_findDues_145 ?_
                        have h_52 : x_is 1 (xr 1 k0 23) 12 := x_tm h0 (by decide) rfl
                        refine lv_iload hx hb dX11_findDues_148 (lv_at hl 4 rfl) ?_
                        refine lv_aload_n hx hb dX11_findDues_150 rfl (lv_at hl 1 rfl) ?_
                        refine fg_X11_37 C hw h0 dX11_findDues_151 ?_
                        refine lv_iload hx hb dX11_findDues_154 (lv_at hl 4 rfl) ?_
                        refine lv_iconst (v := (1 : Int32)) hx hb dX11_findDues_156 (by decide) ?_
                        refine lv_isub hx hb dX11_findDues_157 ?_
                        obtain ⟨q_53, hf⟩ := x_gE hf
                        refine x_ald C hw h_52 q_53 dX11_findDues_158 ?_
                        obtain ⟨q_54, hf⟩ := x_gE hf
                        refine x_ast C hw h_52 q_54 dX11_findDues_159 (fun H locs hw => ?_)
                        obtain ⟨M_55, eM_55⟩ : ∃ z, z = (x_up M_51 (xr 1 k0 23) x4_41.toNatClampNeg (M_51 (xr 1 k0 23) (x4_41 - (1 : Int32)).toNatClampNeg)) := ⟨_, rfl⟩
                        rw [← eM_55] at hw
                        have hf := x_lE eM_55 hf
                        obtain ⟨x4_56, ex4_56⟩ : ∃ z : Int32, z = (x4_41 + (-1 : Int32)) := ⟨_, rfl⟩
                        have hf := x_lE ex4_56 hf
                        refine lv_iinc (v := x4_56) (lv' := [(4, .int x4_56), (3, .int x3_26), (0, .ref (g.2.2.1 k0)), (1, .int a1), (2, .int x2_4)]) hx hb dX11_findDues_160 hl (k := 4) rfl (by rw [ex4_56]; rfl) (by decide) rfl (fun ls hl => ?_)
                        refine lv_goto (tgt := 110) hx hb dX11_findDues_163 (by decide) ?_
                        exact ih_44 _ _ _ _ _ (lv_sub hl [1, 2, 3, 4, 0] rfl) hw hf
                exact hL_57 _ _ _ _ _ _ (lv_sub hl [1, 2, 3, 4, 0] rfl) hw hf
              · have hf := x_iN hf q_23
                refine lv_goto (tgt := 196) hx hb dX11_findDues_77 (by decide) ?_
                exact hk196_12 _ _ _ _ (lv_sub hl [0, 1, 2] rfl) hw hf
    exact hL_58 _ _ _ _ _ _ (lv_sub hl [1, 2, 0] rfl) hw hf
  have hL_71 : ∀ (n_61 : Nat) (H : Heap) (locs : List Loc) (M_60 : xM) (x2_59 : Int32) (ls : Array Slot) , lv_has ls 5 [(0, .ref (g.2.2.1 k0)), (1, .int a1), (2, .int x2_59)] → x_w g 1 s H locs M_60 → fX11_findDues_L2 k0 a1 k26_1 n_61 M_60 x2_59 = some M' → W p l e (x_rm 4 102) s m args below meth c H locs 0 0 Q (F0 m 2 ls []) := by
    intro n_61
    induction n_61 with
    | zero =>
      intro H locs M_60 x2_59 ls  hl hw hf
      rw [fX11_findDues_L2] at hf
      cases hf
    | succ n_61 ih_62 =>
      intro H locs M_60 x2_59 ls  hl hw hf
      rw [fX11_findDues_L2] at hf
      refine lv_iload_n hx hb dX11_findDues_2 rfl (lv_at hl 2 rfl) ?_
      refine lv_bipush (v := (24 : Int32)) hx hb dX11_findDues_3 (by decide) ?_
      refine lv_icmp_ge (tgt := 26) hx hb dX11_findDues_5 (by decide) (fun q_63 => ?_) (fun q_63 => ?_)
      · have hf := x_iP hf q_63
        exact hk26_1 _ _ _ _ (lv_sub hl [0, 1] rfl) hw hf
      · have hf := x_iN hf q_63
        refine lv_aload_n hx hb dX11_findDues_8 rfl (lv_at hl 0 rfl) ?_
        refine fg_X11_31 C hw h0 dX11_findDues_9 ?_
        have h_64 : x_is 1 (xr 1 k0 21) 12 := x_tm h0 (by decide) rfl
        refine lv_iload_n hx hb dX11_findDues_12 rfl (lv_at hl 2 rfl) ?_
        refine lv_aload_n hx hb dX11_findDues_13 rfl (lv_at hl 0 rfl) ?_
        refine lv_iload_n hx hb dX11_findDues_14 rfl (lv_at hl 1 rfl) ?_
        refine lv_iload_n hx hb dX11_findDues_15 rfl (lv_at hl 2 rfl) ?_
        obtain ⟨tv_67, tM_65, c_66, hf⟩ := x_bE hf
        refine x_vI C hw hl.1 [.int a1, .int x2_59] [.int x2_59, .ref (g.2.2.1 (xr 1 k0 21))] (mX11_roomOf l g h0 c_66) lk_X11_241 h0 (by decide) rfl (by decide) rfl (Nat.le_of_ble_eq_true rfl) ⟨Nat.zero_le _, Nat.zero_le _⟩ dX11_findDues_16 (fun v_67 M_65 H locs hN hw => ?_)
        obtain ⟨rfl, rfl⟩ := hN
        obtain ⟨q_68, hf⟩ := x_gE hf
        refine x_ast C hw h_64 q_68 dX11_findDues_19 (fun H locs hw => ?_)
        obtain ⟨M_69, eM_69⟩ : ∃ z, z = (x_up M_65 (xr 1 k0 21) x2_59.toNatClampNeg v_67) := ⟨_, rfl⟩
        rw [← eM_69] at hw
        have hf := x_lE eM_69 hf
        obtain ⟨x2_70, ex2_70⟩ : ∃ z : Int32, z = (x2_59 + (1 : Int32)) := ⟨_, rfl⟩
        have hf := x_lE ex2_70 hf
        refine lv_iinc (v := x2_70) (lv' := [(2, .int x2_70), (0, .ref (g.2.2.1 k0)), (1, .int a1)]) hx hb dX11_findDues_20 hl (k := 2) rfl (by rw [ex2_70]; rfl) (by decide) rfl (fun ls hl => ?_)
        refine lv_goto (tgt := 2) hx hb dX11_findDues_23 (by decide) ?_
        exact ih_62 _ _ _ _ _ (lv_sub hl [1, 2, 0] rfl) hw hf
  exact hL_71 _ _ _ _ _ _ (lv_sub hl [1, 2, 0] rfl) hw hf
def fX11_holds_L33 (k0 : Nat) (a1 : Int32) (x7_4 : Int32) (k83_14 : xM → Int64 → Int32 → Option (Int32 × xM)) : Nat → xM → Int64 → Int32 → Option (Int32 × xM)
  | 0, _, _, _ => none
  | n_21 + 1, M_20, x2_18, x4_19 => if (24 : Int32) ≤ x4_19 then (k83_14 M_20 x2_18 x4_19) else (x_g (0 : Int32) (xn 1 (xr 1 k0 0)) (x_g x7_4 (xn 1 (xr 1 k0 22)) (if (M_20 (xr 1 k0 22) x7_4.toNatClampNeg) < ((M_20 (xr 1 k0 0) (0 : Int32).toNatClampNeg) + ((30 : Int32) * x4_19)) then (k83_14 M_20 x2_18 x4_19) else (x_g x4_19 (xn 1 (xr 1 k0 21)) (x_b (fX11_less M_20 (M_20 (xr 1 k0 21) x4_19.toNatClampNeg) a1) fun v_33 M_31 => x_l (x2_18 + (v_33.toInt64)) fun x2_34 => x_l (x4_19 + (1 : Int32)) fun x4_35 => fX11_holds_L33 k0 a1 x7_4 k83_14 n_21 M_31 x2_34 x4_35)))))
def fX11_holds_L11 (k0 : Nat) (a1 : Int32) : Nat → xM → Int64 → Int32 → Int64 → Int32 → Option (Int32 × xM)
  | 0, _, _, _, _, _ => none
  | n_6 + 1, M_5, x2_1, x4_2, x5_3, x7_4 => if (M_5 k0 24) ≤ x7_4 then (x_z (1 : Int32) (some ((1 : Int32), M_5))) else (x_g x7_4 (xn 1 (xr 1 k0 23)) (x_l (x5_3 + ((M_5 (xr 1 k0 23) x7_4.toNatClampNeg).toInt64)) fun x5_11 => x_l (fun (M_15 : xM) (x2_12 : Int64) (x4_13 : Int32) => if 0 ≤ (lg_cmp x2_12 x5_11) then (x_l (x7_4 + (1 : Int32)) fun x7_17 => fX11_holds_L11 k0 a1 n_6 M_15 x2_12 x4_13 x5_11 x7_17) else (x_z (0 : Int32) (some ((0 : Int32), M_15)))) fun k83_14 => fX11_holds_L33 k0 a1 x7_4 k83_14 x_FU M_5 x2_1 x4_2))
def fX11_holds (M : xM) (k0 : Nat) (a1 : Int32) : Option (Int32 × xM) := fX11_holds_L11 k0 a1 x_FU M (0 : Int64) (0 : Int32) (0 : Int64) (0 : Int32)
set_option maxRecDepth 100000 in
set_option maxHeartbeats 4000000 in
theorem mX11_holds (l : Launch) (g : xG) {k0 : Nat} {a1 : Int32} {r : Int32} {M' : xM} (h0 : x_is 1 k0 11) {M : xM} (hf : fX11_holds M k0 a1 = some (r, M')) : x_cI l g 1 yX11_holds cX11_holds 8 .boolean 1 21 [.ref (g.2.2.1 k0), .int a1] M (fun v N => v = r ∧ N = M') := by
  refine x_stZ RX11 (by decide) rfl (Nat.le_of_ble_eq_true rfl) ?_
  intro p e s m args below meth c Q ls C hw ret hl
  obtain ⟨hx, hb, hml, hown, hB, -⟩ := id C
  have hl : lv_has ls 8 [(0, .ref (g.2.2.1 k0)), (1, .int a1)] := hl
  unfold fX11_holds at hf
  refine lv_lconst (v := 0) hx hb dX11_holds_0 (by decide) ?_
  refine lv_lstore_n (lv' := [(2, .long (0 : Int64)), (0, .ref (g.2.2.1 k0)), (1, .int a1)]) hx hb dX11_holds_1 rfl hl (by decide) rfl (fun ls hl => ?_)
  refine lv_iconst (v := (0 : Int32)) hx hb dX11_holds_2 (by decide) ?_
  refine lv_istore (lv' := [(4, .int (0 : Int32)), (2, .long (0 : Int64)), (0, .ref (g.2.2.1 k0)), (1, .int a1)]) hx hb dX11_holds_3 hl (by decide) rfl (fun ls hl => ?_)
  refine lv_lconst (v := 0) hx hb dX11_holds_5 (by decide) ?_
  refine lv_lstore (lv' := [(5, .long (0 : Int64)), (4, .int (0 : Int32)), (2, .long (0 : Int64)), (0, .ref (g.2.2.1 k0)), (1, .int a1)]) hx hb dX11_holds_6 hl (by decide) rfl (fun ls hl => ?_)
  refine lv_iconst (v := (0 : Int32)) hx hb dX11_holds_8 (by decide) ?_
  refine lv_istore (lv' := [(7, .int (0 : Int32)), (5, .long (0 : Int64)), (4, .int (0 : Int32)), (2, .long (0 : Int64)), (0, .ref (g.2.2.1 k0)), (1, .int a1)]) hx hb dX11_holds_9 hl (by decide) rfl (fun ls hl => ?_)
  have hL_37 : ∀ (n_6 : Nat) (H : Heap) (locs : List Loc) (M_5 : xM) (x2_1 : Int64) (x4_2 : Int32) (x5_3 : Int64) (x7_4 : Int32) (ls : Array Slot) , lv_has ls 8 [(0, .ref (g.2.2.1 k0)), (1, .int a1), (2, .long x2_1), (4, .int x4_2), (5, .long x5_3), (7, .int x7_4)] → x_w g 1 s H locs M_5 → fX11_holds_L11 k0 a1 n_6 M_5 x2_1 x4_2 x5_3 x7_4 = some (r, M') → W p l e (x_rm 1 21) s m args below meth c H locs 0 0 Q (F0 m 11 ls []) := by
    intro n_6
    induction n_6 with
    | zero =>
      intro H locs M_5 x2_1 x4_2 x5_3 x7_4 ls  hl hw hf
      rw [fX11_holds_L11] at hf
      cases hf
    | succ n_6 ih_7 =>
      intro H locs M_5 x2_1 x4_2 x5_3 x7_4 ls  hl hw hf
      rw [fX11_holds_L11] at hf
      refine lv_iload hx hb dX11_holds_11 (lv_at hl 5 rfl) ?_
      refine lv_aload_n hx hb dX11_holds_13 rfl (lv_at hl 0 rfl) ?_
      refine fg_X11_244 C hw h0 dX11_holds_14 ?_
      refine lv_icmp_ge (tgt := 98) hx hb dX11_holds_17 (by decide) (fun q_8 => ?_) (fun q_8 => ?_)
      · have hf := x_iP hf q_8
        refine lv_iconst (v := (1 : Int32)) hx hb dX11_holds_98 (by decide) ?_
        exact ret hf dX11_holds_99 hw
      · have hf := x_iN hf q_8
        refine lv_lload hx hb dX11_holds_20 (lv_at hl 4 rfl) ?_
        refine lv_aload_n hx hb dX11_holds_22 rfl (lv_at hl 0 rfl) ?_
        refine fg_X11_37 C hw h0 dX11_holds_23 ?_
        have h_9 : x_is 1 (xr 1 k0 23) 12 := x_tm h0 (by decide) rfl
        refine lv_iload hx hb dX11_holds_26 (lv_at hl 5 rfl) ?_
        obtain ⟨q_10, hf⟩ := x_gE hf
        refine x_ald C hw h_9 q_10 dX11_holds_28 ?_
        refine lv_i2l hx hb dX11_holds_29 rfl ?_
        refine lv_ladd hx hb dX11_holds_30 ?_
        refine lv_topl (fun x5_11 ex5_11 => ?_)
        have hf := x_lE ex5_11 hf
        refine lv_lstore (lv' := [(5, .long x5_11), (0, .ref (g.2.2.1 k0)), (1, .int a1), (2, .long x2_1), (4, .int x4_2), (7, .int x7_4)]) hx hb dX11_holds_31 hl (by decide) rfl (fun ls hl => ?_)
        obtain ⟨k83_14, ek83_14, hf⟩ := x_jE hf
        have hk83_14 : ∀ (H : Heap) (locs : List Loc) (M_15 : xM) (x2_12 : Int64) (x4_13 : Int32) (ls : Array Slot) , lv_has ls 8 [(5, .long x5_11), (0, .ref (g.2.2.1 k0)), (1, .int a1), (7, .int x7_4), (2, .long x2_12), (4, .int x4_13)] → x_w g 1 s H locs M_15 → k83_14 M_15 x2_12 x4_13 = some (r, M') → W p l e (x_rm 1 21) s m args below meth c H locs 0 0 Q (F0 m 83 ls []) := by
          intro H locs M_15 x2_12 x4_13 ls  hl hw hf
          rw [ek83_14] at hf
          refine lv_lload_n hx hb dX11_holds_83 rfl (lv_at hl 4 rfl) ?_
          refine lv_lload hx hb dX11_holds_84 (lv_at hl 0 rfl) ?_
          refine W.lcmp hx hb dX11_holds_86 ?_
          refine lv_if_ge (tgt := 92) hx hb dX11_holds_87 (by decide) (fun q_16 => ?_) (fun q_16 => ?_)
          · have hf := x_iP hf q_16
            obtain ⟨x7_17, ex7_17⟩ : ∃ z : Int32, z = (x7_4 + (1 : Int32)) := ⟨_, rfl⟩
            have hf := x_lE ex7_17 hf
            refine lv_iinc (v := x7_17) (lv' := [(7, .int x7_17), (5, .long x5_11), (0, .ref (g.2.2.1 k0)), (1, .int a1), (2, .long x2_12), (4, .int x4_13)]) hx hb dX11_holds_92 hl (k := 3) rfl (by rw [ex7_17]; rfl) (by decide) rfl (fun ls hl => ?_)
            refine lv_goto (tgt := 11) hx hb dX11_holds_95 (by decide) ?_
            exact ih_7 _ _ _ _ _ _ _ _ (lv_sub hl [2, 3, 4, 5, 1, 0] rfl) hw hf
          · have hf := x_iN hf q_16
            refine lv_iconst (v := (0 : Int32)) hx hb dX11_holds_90 (by decide) ?_
            exact ret hf dX11_holds_91 hw
        have hL_36 : ∀ (n_21 : Nat) (H : Heap) (locs : List Loc) (M_20 : xM) (x2_18 : Int64) (x4_19 : Int32) (ls : Array Slot) , lv_has ls 8 [(5, .long x5_11), (0, .ref (g.2.2.1 k0)), (1, .int a1), (7, .int x7_4), (2, .long x2_18), (4, .int x4_19)] → x_w g 1 s H locs M_20 → fX11_holds_L33 k0 a1 x7_4 k83_14 n_21 M_20 x2_18 x4_19 = some (r, M') → W p l e (x_rm 1 21) s m args below meth c H locs 0 0 Q (F0 m 33 ls []) := by
          intro n_21
          induction n_21 with
          | zero =>
            intro H locs M_20 x2_18 x4_19 ls  hl hw hf
            rw [fX11_holds_L33] at hf
            cases hf
          | succ n_21 ih_22 =>
            intro H locs M_20 x2_18 x4_19 ls  hl hw hf
            rw [fX11_holds_L33] at hf
            refine lv_iload hx hb dX11_holds_33 (lv_at hl 5 rfl) ?_
            refine lv_bipush (v := (24 : Int32)) hx hb dX11_holds_35 (by decide) ?_
            refine lv_icmp_ge (tgt := 83) hx hb dX11_holds_37 (by decide) (fun q_23 => ?_) (fun q_23 => ?_)
            · have hf := x_iP hf q_23
              exact hk83_14 _ _ _ _ _ _ (lv_sub hl [0, 1, 2, 3, 4, 5] rfl) hw hf
            · have hf := x_iN hf q_23
              refine lv_aload_n hx hb dX11_holds_40 rfl (lv_at hl 1 rfl) ?_
              refine fg_X11_7 C hw h0 dX11_holds_41 ?_
              have h_24 : x_is 1 (xr 1 k0 0) 12 := x_tm h0 (by decide) rfl
              refine lv_iconst (v := (0 : Int32)) hx hb dX11_holds_44 (by decide) ?_
              obtain ⟨q_25, hf⟩ := x_gE hf
              refine x_ald C hw h_24 q_25 dX11_holds_45 ?_
              refine lv_bipush (v := (30 : Int32)) hx hb dX11_holds_46 (by decide) ?_
              refine lv_iload hx hb dX11_holds_48 (lv_at hl 5 rfl) ?_
              refine lv_imul hx hb dX11_holds_50 ?_
              refine lv_iadd hx hb dX11_holds_51 ?_
              refine lv_aload_n hx hb dX11_holds_52 rfl (lv_at hl 1 rfl) ?_
              refine fg_X11_34 C hw h0 dX11_holds_53 ?_
              have h_26 : x_is 1 (xr 1 k0 22) 12 := x_tm h0 (by decide) rfl
              refine lv_iload hx hb dX11_holds_56 (lv_at hl 3 rfl) ?_
              obtain ⟨q_27, hf⟩ := x_gE hf
              refine x_ald C hw h_26 q_27 dX11_holds_58 ?_
              refine lv_icmp_gt (tgt := 83) hx hb dX11_holds_59 (by decide) (fun q_28 => ?_) (fun q_28 => ?_)
              · have hf := x_iP hf q_28
                exact hk83_14 _ _ _ _ _ _ (lv_sub hl [0, 1, 2, 3, 4, 5] rfl) hw hf
              · have hf := x_iN hf q_28
                refine lv_lload_n hx hb dX11_holds_62 rfl (lv_at hl 4 rfl) ?_
                refine lv_aload_n hx hb dX11_holds_63 rfl (lv_at hl 1 rfl) ?_
                refine fg_X11_31 C hw h0 dX11_holds_64 ?_
                have h_29 : x_is 1 (xr 1 k0 21) 12 := x_tm h0 (by decide) rfl
                refine lv_iload hx hb dX11_holds_67 (lv_at hl 5 rfl) ?_
                obtain ⟨q_30, hf⟩ := x_gE hf
                refine x_ald C hw h_29 q_30 dX11_holds_69 ?_
                refine lv_iload_n hx hb dX11_holds_70 rfl (lv_at hl 2 rfl) ?_
                obtain ⟨tv_33, tM_31, c_32, hf⟩ := x_bE hf
                refine x_sI C hw hl.1 [.int (M_20 (xr 1 k0 21) x4_19.toNatClampNeg), .int a1] [.long x2_18] (mX11_less l g c_32) lk_X11_195 (by decide) rfl (Nat.le_of_ble_eq_true rfl) ⟨Nat.zero_le _, Nat.zero_le _⟩ dX11_holds_71 (fun v_33 M_31 H locs hN hw => ?_)
                obtain ⟨rfl, rfl⟩ := hN
                refine lv_i2l hx hb dX11_holds_74 rfl ?_
                refine lv_ladd hx hb dX11_holds_75 ?_
                refine lv_topl (fun x2_34 ex2_34 => ?_)
                have hf := x_lE ex2_34 hf
                refine lv_lstore_n (lv' := [(2, .long x2_34), (5, .long x5_11), (0, .ref (g.2.2.1 k0)), (1, .int a1), (7, .int x7_4), (4, .int x4_19)]) hx hb dX11_holds_76 rfl hl (by decide) rfl (fun ls hl => ?_)
                obtain ⟨x4_35, ex4_35⟩ : ∃ z : Int32, z = (x4_19 + (1 : Int32)) := ⟨_, rfl⟩
                have hf := x_lE ex4_35 hf
                refine lv_iinc (v := x4_35) (lv' := [(4, .int x4_35), (2, .long x2_34), (5, .long x5_11), (0, .ref (g.2.2.1 k0)), (1, .int a1), (7, .int x7_4)]) hx hb dX11_holds_77 hl (k := 5) rfl (by rw [ex4_35]; rfl) (by decide) rfl (fun ls hl => ?_)
                refine lv_goto (tgt := 33) hx hb dX11_holds_80 (by decide) ?_
                exact ih_22 _ _ _ _ _ _ (lv_sub hl [2, 3, 4, 5, 1, 0] rfl) hw hf
        exact hL_36 _ _ _ _ _ _ _ (lv_sub hl [0, 1, 2, 5, 3, 4] rfl) hw hf
  exact hL_37 _ _ _ _ _ _ _ _ _ (lv_sub hl [4, 5, 3, 2, 1, 0] rfl) hw hf
def fX11_findLevel_L29 (k0 : Nat) : Nat → xM → Int32 → Int32 → Option (Int32 × xM)
  | 0, _, _, _ => none
  | n_11 + 1, M_10, x2_8, x3_9 => if (x3_9 - x2_8) ≤ (1 : Int32) then (some (x3_9, M_10)) else (x_d (2 : Int32) (x_l ((x2_8 + x3_9) / (2 : Int32)) fun x4_15 => x_b (fX11_holds M_10 k0 x4_15) fun v_18 M_16 => x_l (fun (M_22 : xM) (x2_19 : Int32) (x3_20 : Int32) => fX11_findLevel_L29 k0 n_11 M_22 x2_19 x3_20) fun k61_21 => if v_18 = 0 then (k61_21 M_16 x4_15 x3_9) else (k61_21 M_16 x2_8 x4_15)))
def fX11_findLevel (M : xM) (k0 : Nat) (a1 : Int32) : Option (Int32 × xM) := x_v (fX11_findDues M k0 a1) fun M_1 => if (M_1 k0 24) = 0 then (some ((0 : Int32), M_1)) else (x_b (fX11_holds M_1 k0 (200000 : Int32)) fun v_6 M_4 => if v_6 = 0 then (some ((-1 : Int32), M_4)) else (fX11_findLevel_L29 k0 x_FU M_4 (0 : Int32) (200000 : Int32)))
set_option maxRecDepth 100000 in
set_option maxHeartbeats 4000000 in
theorem mX11_findLevel (l : Launch) (g : xG) {k0 : Nat} {a1 : Int32} {r : Int32} {M' : xM} (h0 : x_is 1 k0 11) {M : xM} (hf : fX11_findLevel M k0 a1 = some (r, M')) : x_cI l g 1 yX11_findLevel cX11_findLevel 5 .int 5 126 [.ref (g.2.2.1 k0), .int a1] M (fun v N => v = r ∧ N = M') := by
  refine x_stI RX11 (by decide) rfl (Nat.le_of_ble_eq_true rfl) ?_
  intro p e s m args below meth c Q ls C hw ret hl
  obtain ⟨hx, hb, hml, hown, hB, -⟩ := id C
  have hl : lv_has ls 5 [(0, .ref (g.2.2.1 k0)), (1, .int a1)] := hl
  unfold fX11_findLevel at hf
  refine lv_aload_n hx hb dX11_findLevel_0 rfl (lv_at hl 0 rfl) ?_
  refine lv_iload_n hx hb dX11_findLevel_1 rfl (lv_at hl 1 rfl) ?_
  obtain ⟨tM_1, c_2, hf⟩ := x_vE hf
  refine x_vV C hw hl.1 [.int a1] [] (mX11_findDues l g h0 c_2) lk_X11_247 h0 (by decide) rfl (by decide) rfl (Nat.le_of_ble_eq_true rfl) ⟨Nat.zero_le _, Nat.zero_le _⟩ dX11_findLevel_2 (fun M_1 H locs hN hw => ?_)
  obtain rfl := hN
  refine lv_aload_n hx hb dX11_findLevel_5 rfl (lv_at hl 0 rfl) ?_
  refine fg_X11_244 C hw h0 dX11_findLevel_6 ?_
  refine lv_if_ne (tgt := 14) hx hb dX11_findLevel_9 (by decide) (fun q_3 => ?_) (fun q_3 => ?_)
  · have hf := x_iN hf q_3
    refine lv_iconst (v := (0 : Int32)) hx hb dX11_findLevel_14 (by decide) ?_
    refine lv_istore_n (lv' := [(2, .int (0 : Int32)), (0, .ref (g.2.2.1 k0)), (1, .int a1)]) hx hb dX11_findLevel_15 rfl hl (by decide) rfl (fun ls hl => ?_)
    refine lv_ldc hx hb hown (hB _ mk_X11_250) dX11_findLevel_16 ?_
    refine lv_istore_n (lv' := [(3, .int (200000 : Int32)), (2, .int (0 : Int32)), (0, .ref (g.2.2.1 k0)), (1, .int a1)]) hx hb dX11_findLevel_18 rfl hl (by decide) rfl (fun ls hl => ?_)
    refine lv_aload_n hx hb dX11_findLevel_19 rfl (lv_at hl 2 rfl) ?_
    refine lv_iload_n hx hb dX11_findLevel_20 rfl (lv_at hl 0 rfl) ?_
    obtain ⟨tv_6, tM_4, c_5, hf⟩ := x_bE hf
    refine x_vI C hw hl.1 [.int (200000 : Int32)] [] (mX11_holds l g h0 c_5) lk_X11_251 h0 (by decide) rfl (by decide) rfl (Nat.le_of_ble_eq_true rfl) ⟨Nat.zero_le _, Nat.zero_le _⟩ dX11_findLevel_21 (fun v_6 M_4 H locs hN hw => ?_)
    obtain ⟨rfl, rfl⟩ := hN
    refine lv_if_ne (tgt := 29) hx hb dX11_findLevel_24 (by decide) (fun q_7 => ?_) (fun q_7 => ?_)
    · have hf := x_iN hf q_7
      have hL_24 : ∀ (n_11 : Nat) (H : Heap) (locs : List Loc) (M_10 : xM) (x2_8 : Int32) (x3_9 : Int32) (ls : Array Slot) , lv_has ls 5 [(0, .ref (g.2.2.1 k0)), (2, .int x2_8), (3, .int x3_9)] → x_w g 1 s H locs M_10 → fX11_findLevel_L29 k0 n_11 M_10 x2_8 x3_9 = some (r, M') → W p l e (x_rm 5 126) s m args below meth c H locs 0 0 Q (F0 m 29 ls []) := by
        intro n_11
        induction n_11 with
        | zero =>
          intro H locs M_10 x2_8 x3_9 ls  hl hw hf
          rw [fX11_findLevel_L29] at hf
          cases hf
        | succ n_11 ih_12 =>
          intro H locs M_10 x2_8 x3_9 ls  hl hw hf
          rw [fX11_findLevel_L29] at hf
          refine lv_iload_n hx hb dX11_findLevel_29 rfl (lv_at hl 2 rfl) ?_
          refine lv_iload_n hx hb dX11_findLevel_30 rfl (lv_at hl 1 rfl) ?_
          refine lv_isub hx hb dX11_findLevel_31 ?_
          refine lv_iconst (v := (1 : Int32)) hx hb dX11_findLevel_32 (by decide) ?_
          refine lv_icmp_le (tgt := 64) hx hb dX11_findLevel_33 (by decide) (fun q_13 => ?_) (fun q_13 => ?_)
          · have hf := x_iP hf q_13
            refine lv_iload_n hx hb dX11_findLevel_64 rfl (lv_at hl 2 rfl) ?_
            exact ret hf dX11_findLevel_65 hw
          · have hf := x_iN hf q_13
            refine lv_iload_n hx hb dX11_findLevel_36 rfl (lv_at hl 1 rfl) ?_
            refine lv_iload_n hx hb dX11_findLevel_37 rfl (lv_at hl 2 rfl) ?_
            refine lv_iadd hx hb dX11_findLevel_38 ?_
            refine lv_iconst (v := (2 : Int32)) hx hb dX11_findLevel_39 (by decide) ?_
            obtain ⟨q_14, hf⟩ := x_dE hf
            refine lv_idiv hx hb dX11_findLevel_40 q_14 ?_
            refine lv_topi (fun x4_15 ex4_15 => ?_)
            have hf := x_lE ex4_15 hf
            refine lv_istore (lv' := [(4, .int x4_15), (0, .ref (g.2.2.1 k0)), (2, .int x2_8), (3, .int x3_9)]) hx hb dX11_findLevel_41 hl (by decide) rfl (fun ls hl => ?_)
            refine lv_aload_n hx hb dX11_findLevel_43 rfl (lv_at hl 1 rfl) ?_
            refine lv_iload hx hb dX11_findLevel_44 (lv_at hl 0 rfl) ?_
            obtain ⟨tv_18, tM_16, c_17, hf⟩ := x_bE hf
            refine x_vI C hw hl.1 [.int x4_15] [] (mX11_holds l g h0 c_17) lk_X11_251 h0 (by decide) rfl (by decide) rfl (Nat.le_of_ble_eq_true rfl) ⟨Nat.zero_le _, Nat.zero_le _⟩ dX11_findLevel_46 (fun v_18 M_16 H locs hN hw => ?_)
            obtain ⟨rfl, rfl⟩ := hN
            obtain ⟨k61_21, ek61_21, hf⟩ := x_jE hf
            have hk61_21 : ∀ (H : Heap) (locs : List Loc) (M_22 : xM) (x2_19 : Int32) (x3_20 : Int32) (ls : Array Slot) , lv_has ls 5 [(0, .ref (g.2.2.1 k0)), (2, .int x2_19), (3, .int x3_20)] → x_w g 1 s H locs M_22 → k61_21 M_22 x2_19 x3_20 = some (r, M') → W p l e (x_rm 5 126) s m args below meth c H locs 0 0 Q (F0 m 61 ls []) := by
              intro H locs M_22 x2_19 x3_20 ls  hl hw hf
              rw [ek61_21] at hf
              refine lv_goto (tgt := 29) hx hb dX11_findLevel_61 (by decide) ?_
              exact ih_12 _ _ _ _ _ _ (lv_sub hl [0, 1, 2] rfl) hw hf
            refine lv_if_eq (tgt := 58) hx hb dX11_findLevel_49 (by decide) (fun q_23 => ?_) (fun q_23 => ?_)
            · have hf := x_iP hf q_23
              refine lv_iload hx hb dX11_findLevel_58 (lv_at hl 0 rfl) ?_
              refine lv_istore_n (lv' := [(2, .int x4_15), (4, .int x4_15), (0, .ref (g.2.2.1 k0)), (3, .int x3_9)]) hx hb dX11_findLevel_60 rfl hl (by decide) rfl (fun ls hl => ?_)
              exact hk61_21 _ _ _ _ _ _ (lv_sub hl [2, 0, 3] rfl) hw hf
            · have hf := x_iN hf q_23
              refine lv_iload hx hb dX11_findLevel_52 (lv_at hl 0 rfl) ?_
              refine lv_istore_n (lv' := [(3, .int x4_15), (4, .int x4_15), (0, .ref (g.2.2.1 k0)), (2, .int x2_8)]) hx hb dX11_findLevel_54 rfl hl (by decide) rfl (fun ls hl => ?_)
              refine lv_goto (tgt := 61) hx hb dX11_findLevel_55 (by decide) ?_
              exact hk61_21 _ _ _ _ _ _ (lv_sub hl [2, 3, 0] rfl) hw hf
      exact hL_24 _ _ _ _ _ _ _ (lv_sub hl [2, 1, 0] rfl) hw hf
    · have hf := x_iP hf q_7
      refine lv_iconst (v := (-1 : Int32)) hx hb dX11_findLevel_27 (by decide) ?_
      exact ret hf dX11_findLevel_28 hw
  · have hf := x_iP hf q_3
    refine lv_iconst (v := (0 : Int32)) hx hb dX11_findLevel_12 (by decide) ?_
    exact ret hf dX11_findLevel_13 hw
def fX11_level (M : xM) (k0 : Nat) (a1 : Int32) : Option (Int32 × xM) := x_b (fX11_isPerson M k0 a1) fun v_3 M_1 => if v_3 = 0 then (some ((-1000000001 : Int32), M_1)) else (x_b (fX11_findLevel M_1 k0 a1) fun v_7 M_5 => if v_7 = (-1 : Int32) then (some ((-1000000002 : Int32), M_5)) else (some (v_7, M_5)))
set_option maxRecDepth 100000 in
set_option maxHeartbeats 4000000 in
theorem mX11_level (l : Launch) (g : xG) {k0 : Nat} {a1 : Int32} {r : Int32} {M' : xM} (h0 : x_is 1 k0 11) {M : xM} (hf : fX11_level M k0 a1 = some (r, M')) : x_cI l g 1 yX11_level cX11_level 3 .int 6 150 [.ref (g.2.2.1 k0), .int a1] M (fun v N => v = r ∧ N = M') := by
  refine x_stI RX11 (by decide) rfl (Nat.le_of_ble_eq_true rfl) ?_
  intro p e s m args below meth c Q ls C hw ret hl
  obtain ⟨hx, hb, hml, hown, hB, -⟩ := id C
  have hl : lv_has ls 3 [(0, .ref (g.2.2.1 k0)), (1, .int a1)] := hl
  unfold fX11_level at hf
  refine lv_aload_n hx hb dX11_level_0 rfl (lv_at hl 0 rfl) ?_
  refine lv_iload_n hx hb dX11_level_1 rfl (lv_at hl 1 rfl) ?_
  obtain ⟨tv_3, tM_1, c_2, hf⟩ := x_bE hf
  refine x_vI C hw hl.1 [.int a1] [] (mX11_isPerson l g h0 c_2) lk_X11_62 h0 (by decide) rfl (by decide) rfl (Nat.le_of_ble_eq_true rfl) ⟨Nat.zero_le _, Nat.zero_le _⟩ dX11_level_2 (fun v_3 M_1 H locs hN hw => ?_)
  obtain ⟨rfl, rfl⟩ := hN
  refine lv_if_ne (tgt := 11) hx hb dX11_level_5 (by decide) (fun q_4 => ?_) (fun q_4 => ?_)
  · have hf := x_iN hf q_4
    refine lv_aload_n hx hb dX11_level_11 rfl (lv_at hl 0 rfl) ?_
    refine lv_iload_n hx hb dX11_level_12 rfl (lv_at hl 1 rfl) ?_
    obtain ⟨tv_7, tM_5, c_6, hf⟩ := x_bE hf
    refine x_vI C hw hl.1 [.int a1] [] (mX11_findLevel l g h0 c_6) lk_X11_254 h0 (by decide) rfl (by decide) rfl (Nat.le_of_ble_eq_true rfl) ⟨Nat.zero_le _, Nat.zero_le _⟩ dX11_level_13 (fun v_7 M_5 H locs hN hw => ?_)
    obtain ⟨rfl, rfl⟩ := hN
    refine lv_istore_n (lv' := [(2, .int v_7), (0, .ref (g.2.2.1 k0)), (1, .int a1)]) hx hb dX11_level_16 rfl hl (by decide) rfl (fun ls hl => ?_)
    refine lv_iload_n hx hb dX11_level_17 rfl (lv_at hl 0 rfl) ?_
    refine lv_iconst (v := (-1 : Int32)) hx hb dX11_level_18 (by decide) ?_
    refine lv_icmp_ne (tgt := 27) hx hb dX11_level_19 (by decide) (fun q_8 => ?_) (fun q_8 => ?_)
    · have hf := x_iN hf q_8
      refine lv_iload_n hx hb dX11_level_27 rfl (lv_at hl 0 rfl) ?_
      exact ret hf dX11_level_28 hw
    · have hf := x_iP hf q_8
      refine lv_ldc hx hb hown (hB _ mk_X11_69) dX11_level_22 ?_
      refine lv_goto (tgt := 28) hx hb dX11_level_24 (by decide) ?_
      exact ret hf dX11_level_28 hw
  · have hf := x_iP hf q_4
    refine lv_ldc hx hb hown (hB _ mk_X11_60) dX11_level_8 ?_
    exact ret hf dX11_level_10 hw
def fX11_layPays_L34 (k0 : Nat) (a1 : Int32) : Nat → xM → Int64 → Int32 → Option (xM)
  | 0, _, _, _ => none
  | n_7 + 1, M_6, x2_4, x4_5 => if (24 : Int32) ≤ x4_5 then (some M_6) else (x_g x4_5 (xn 1 (xr 1 k0 21)) (x_b (fX11_less M_6 (M_6 (xr 1 k0 21) x4_5.toNatClampNeg) a1) fun v_14 M_12 => x_l (fun (M_18 : xM) (z_16 : Int32) => x_g x4_5 (xn 1 (xr 1 k0 25)) (x_l (x_up M_18 (xr 1 k0 25) x4_5.toNatClampNeg z_16) fun M_20 => x_g x4_5 (xn 1 (xr 1 k0 25)) (x_l (x2_4 - ((M_20 (xr 1 k0 25) x4_5.toNatClampNeg).toInt64)) fun x2_22 => x_l (x4_5 + (1 : Int32)) fun x4_23 => fX11_layPays_L34 k0 a1 n_7 M_20 x2_22 x4_23))) fun k75_17 => if 0 ≤ (lg_cmp (v_14.toInt64) x2_4) then (k75_17 M_12 (x2_4.toInt32)) else (k75_17 M_12 v_14)))
def fX11_layPays_L5 (k0 : Nat) (k31_2 : xM → Int64 → Option (xM)) : Nat → xM → Int64 → Int32 → Option (xM)
  | 0, _, _, _ => none
  | n_29 + 1, M_28, x2_26, x4_27 => if (M_28 k0 24) ≤ x4_27 then (k31_2 M_28 x2_26) else (x_g x4_27 (xn 1 (xr 1 k0 23)) (x_l (x2_26 + ((M_28 (xr 1 k0 23) x4_27.toNatClampNeg).toInt64)) fun x2_34 => x_l (x4_27 + (1 : Int32)) fun x4_35 => fX11_layPays_L5 k0 k31_2 n_29 M_28 x2_34 x4_35))
def fX11_layPays (M : xM) (k0 : Nat) (a1 : Int32) : Option (xM) := x_l (fun (M_3 : xM) (x2_1 : Int64) => fX11_layPays_L34 k0 a1 x_FU M_3 x2_1 (0 : Int32)) fun k31_2 => fX11_layPays_L5 k0 k31_2 x_FU M (0 : Int64) (0 : Int32)
set_option maxRecDepth 100000 in
set_option maxHeartbeats 4000000 in
theorem mX11_layPays (l : Launch) (g : xG) {k0 : Nat} {a1 : Int32} {M' : xM} (h0 : x_is 1 k0 11) {M : xM} (hf : fX11_layPays M k0 a1 = some M') : x_cV l g 1 yX11_layPays cX11_layPays 6 1 21 [.ref (g.2.2.1 k0), .int a1] M (fun N => N = M') := by
  refine x_stV RX11 (by decide) rfl (Nat.le_of_ble_eq_true rfl) ?_
  intro p e s m args below meth c Q ls C hw ret hl
  obtain ⟨hx, hb, hml, hown, hB, -⟩ := id C
  have hl : lv_has ls 6 [(0, .ref (g.2.2.1 k0)), (1, .int a1)] := hl
  unfold fX11_layPays at hf
  refine lv_lconst (v := 0) hx hb dX11_layPays_0 (by decide) ?_
  refine lv_lstore_n (lv' := [(2, .long (0 : Int64)), (0, .ref (g.2.2.1 k0)), (1, .int a1)]) hx hb dX11_layPays_1 rfl hl (by decide) rfl (fun ls hl => ?_)
  refine lv_iconst (v := (0 : Int32)) hx hb dX11_layPays_2 (by decide) ?_
  refine lv_istore (lv' := [(4, .int (0 : Int32)), (2, .long (0 : Int64)), (0, .ref (g.2.2.1 k0)), (1, .int a1)]) hx hb dX11_layPays_3 hl (by decide) rfl (fun ls hl => ?_)
  obtain ⟨k31_2, ek31_2, hf⟩ := x_jE hf
  have hk31_2 : ∀ (H : Heap) (locs : List Loc) (M_3 : xM) (x2_1 : Int64) (ls : Array Slot) , lv_has ls 6 [(0, .ref (g.2.2.1 k0)), (1, .int a1), (2, .long x2_1)] → x_w g 1 s H locs M_3 → k31_2 M_3 x2_1 = some M' → W p l e (x_rm 1 21) s m args below meth c H locs 0 0 Q (F0 m 31 ls []) := by
    intro H locs M_3 x2_1 ls  hl hw hf
    rw [ek31_2] at hf
    refine lv_iconst (v := (0 : Int32)) hx hb dX11_layPays_31 (by decide) ?_
    refine lv_istore (lv' := [(4, .int (0 : Int32)), (0, .ref (g.2.2.1 k0)), (1, .int a1), (2, .long x2_1)]) hx hb dX11_layPays_32 hl (by decide) rfl (fun ls hl => ?_)
    have hL_25 : ∀ (n_7 : Nat) (H : Heap) (locs : List Loc) (M_6 : xM) (x2_4 : Int64) (x4_5 : Int32) (ls : Array Slot) , lv_has ls 6 [(0, .ref (g.2.2.1 k0)), (1, .int a1), (2, .long x2_4), (4, .int x4_5)] → x_w g 1 s H locs M_6 → fX11_layPays_L34 k0 a1 n_7 M_6 x2_4 x4_5 = some M' → W p l e (x_rm 1 21) s m args below meth c H locs 0 0 Q (F0 m 34 ls []) := by
      intro n_7
      induction n_7 with
      | zero =>
        intro H locs M_6 x2_4 x4_5 ls  hl hw hf
        rw [fX11_layPays_L34] at hf
        cases hf
      | succ n_7 ih_8 =>
        intro H locs M_6 x2_4 x4_5 ls  hl hw hf
        rw [fX11_layPays_L34] at hf
        refine lv_iload hx hb dX11_layPays_34 (lv_at hl 3 rfl) ?_
        refine lv_bipush (v := (24 : Int32)) hx hb dX11_layPays_36 (by decide) ?_
        refine lv_icmp_ge (tgt := 93) hx hb dX11_layPays_38 (by decide) (fun q_9 => ?_) (fun q_9 => ?_)
        · have hf := x_iP hf q_9
          exact ret hf dX11_layPays_93 hw
        · have hf := x_iN hf q_9
          refine lv_aload_n hx hb dX11_layPays_41 rfl (lv_at hl 0 rfl) ?_
          refine fg_X11_31 C hw h0 dX11_layPays_42 ?_
          have h_10 : x_is 1 (xr 1 k0 21) 12 := x_tm h0 (by decide) rfl
          refine lv_iload hx hb dX11_layPays_45 (lv_at hl 3 rfl) ?_
          obtain ⟨q_11, hf⟩ := x_gE hf
          refine x_ald C hw h_10 q_11 dX11_layPays_47 ?_
          refine lv_iload_n hx hb dX11_layPays_48 rfl (lv_at hl 1 rfl) ?_
          obtain ⟨tv_14, tM_12, c_13, hf⟩ := x_bE hf
          refine x_sI C hw hl.1 [.int (M_6 (xr 1 k0 21) x4_5.toNatClampNeg), .int a1] [] (mX11_less l g c_13) lk_X11_195 (by decide) rfl (Nat.le_of_ble_eq_true rfl) ⟨Nat.zero_le _, Nat.zero_le _⟩ dX11_layPays_49 (fun v_14 M_12 H locs hN hw => ?_)
          obtain ⟨rfl, rfl⟩ := hN
          refine lv_istore (lv' := [(5, .int v_14), (0, .ref (g.2.2.1 k0)), (1, .int a1), (2, .long x2_4), (4, .int x4_5)]) hx hb dX11_layPays_52 hl (by decide) rfl (fun ls hl => ?_)
          refine lv_aload_n hx hb dX11_layPays_54 rfl (lv_at hl 1 rfl) ?_
          refine fg_X11_40 C hw h0 dX11_layPays_55 ?_
          have h_15 : x_is 1 (xr 1 k0 25) 12 := x_tm h0 (by decide) rfl
          refine lv_iload hx hb dX11_layPays_58 (lv_at hl 4 rfl) ?_
          refine lv_iload hx hb dX11_layPays_60 (lv_at hl 0 rfl) ?_
          refine lv_i2l hx hb dX11_layPays_62 rfl ?_
          refine lv_lload_n hx hb dX11_layPays_63 rfl (lv_at hl 3 rfl) ?_
          refine W.lcmp hx hb dX11_layPays_64 ?_
          obtain ⟨k75_17, ek75_17, hf⟩ := x_jE hf
          have hk75_17 : ∀ (H : Heap) (locs : List Loc) (M_18 : xM) (z_16 : Int32) (ls : Array Slot) , lv_has ls 6 [(0, .ref (g.2.2.1 k0)), (1, .int a1), (2, .long x2_4), (4, .int x4_5)] → x_w g 1 s H locs M_18 → k75_17 M_18 z_16 = some M' → W p l e (x_rm 1 21) s m args below meth c H locs 0 0 Q (F0 m 75 ls [.int z_16, .int x4_5, .ref (g.2.2.1 (xr 1 k0 25))]) := by
            intro H locs M_18 z_16 ls  hl hw hf
            rw [ek75_17] at hf
            obtain ⟨q_19, hf⟩ := x_gE hf
            refine x_ast C hw h_15 q_19 dX11_layPays_75 (fun H locs hw => ?_)
            obtain ⟨M_20, eM_20⟩ : ∃ z, z = (x_up M_18 (xr 1 k0 25) x4_5.toNatClampNeg z_16) := ⟨_, rfl⟩
            rw [← eM_20] at hw
            have hf := x_lE eM_20 hf
            refine lv_lload_n hx hb dX11_layPays_76 rfl (lv_at hl 2 rfl) ?_
            refine lv_aload_n hx hb dX11_layPays_77 rfl (lv_at hl 0 rfl) ?_
            refine fg_X11_40 C hw h0 dX11_layPays_78 ?_
            refine lv_iload hx hb dX11_layPays_81 (lv_at hl 3 rfl) ?_
            obtain ⟨q_21, hf⟩ := x_gE hf
            refine x_ald C hw h_15 q_21 dX11_layPays_83 ?_
            refine lv_i2l hx hb dX11_layPays_84 rfl ?_
            refine lv_lsub hx hb dX11_layPays_85 ?_
            refine lv_topl (fun x2_22 ex2_22 => ?_)
            have hf := x_lE ex2_22 hf
            refine lv_lstore_n (lv' := [(2, .long x2_22), (0, .ref (g.2.2.1 k0)), (1, .int a1), (4, .int x4_5)]) hx hb dX11_layPays_86 rfl hl (by decide) rfl (fun ls hl => ?_)
            obtain ⟨x4_23, ex4_23⟩ : ∃ z : Int32, z = (x4_5 + (1 : Int32)) := ⟨_, rfl⟩
            have hf := x_lE ex4_23 hf
            refine lv_iinc (v := x4_23) (lv' := [(4, .int x4_23), (2, .long x2_22), (0, .ref (g.2.2.1 k0)), (1, .int a1)]) hx hb dX11_layPays_87 hl (k := 3) rfl (by rw [ex4_23]; rfl) (by decide) rfl (fun ls hl => ?_)
            refine lv_goto (tgt := 34) hx hb dX11_layPays_90 (by decide) ?_
            exact ih_8 _ _ _ _ _ _ (lv_sub hl [2, 3, 1, 0] rfl) hw hf
          refine lv_if_ge (tgt := 73) hx hb dX11_layPays_65 (by decide) (fun q_24 => ?_) (fun q_24 => ?_)
          · have hf := x_iP hf q_24
            refine lv_lload_n hx hb dX11_layPays_73 rfl (lv_at hl 3 rfl) ?_
            refine lv_l2i hx hb dX11_layPays_74 rfl ?_
            exact hk75_17 _ _ _ _ _ (lv_sub hl [1, 2, 3, 4] rfl) hw hf
          · have hf := x_iN hf q_24
            refine lv_iload hx hb dX11_layPays_68 (lv_at hl 0 rfl) ?_
            refine lv_goto (tgt := 75) hx hb dX11_layPays_70 (by decide) ?_
            exact hk75_17 _ _ _ _ _ (lv_sub hl [1, 2, 3, 4] rfl) hw hf
    exact hL_25 _ _ _ _ _ _ _ (lv_sub hl [1, 2, 3, 0] rfl) hw hf
  have hL_36 : ∀ (n_29 : Nat) (H : Heap) (locs : List Loc) (M_28 : xM) (x2_26 : Int64) (x4_27 : Int32) (ls : Array Slot) , lv_has ls 6 [(0, .ref (g.2.2.1 k0)), (1, .int a1), (2, .long x2_26), (4, .int x4_27)] → x_w g 1 s H locs M_28 → fX11_layPays_L5 k0 k31_2 n_29 M_28 x2_26 x4_27 = some M' → W p l e (x_rm 1 21) s m args below meth c H locs 0 0 Q (F0 m 5 ls []) := by
    intro n_29
    induction n_29 with
    | zero =>
      intro H locs M_28 x2_26 x4_27 ls  hl hw hf
      rw [fX11_layPays_L5] at hf
      cases hf
    | succ n_29 ih_30 =>
      intro H locs M_28 x2_26 x4_27 ls  hl hw hf
      rw [fX11_layPays_L5] at hf
      refine lv_iload hx hb dX11_layPays_5 (lv_at hl 3 rfl) ?_
      refine lv_aload_n hx hb dX11_layPays_7 rfl (lv_at hl 0 rfl) ?_
      refine fg_X11_244 C hw h0 dX11_layPays_8 ?_
      refine lv_icmp_ge (tgt := 31) hx hb dX11_layPays_11 (by decide) (fun q_31 => ?_) (fun q_31 => ?_)
      · have hf := x_iP hf q_31
        exact hk31_2 _ _ _ _ _ (lv_sub hl [0, 1, 2] rfl) hw hf
      · have hf := x_iN hf q_31
        refine lv_lload_n hx hb dX11_layPays_14 rfl (lv_at hl 2 rfl) ?_
        refine lv_aload_n hx hb dX11_layPays_15 rfl (lv_at hl 0 rfl) ?_
        refine fg_X11_37 C hw h0 dX11_layPays_16 ?_
        have h_32 : x_is 1 (xr 1 k0 23) 12 := x_tm h0 (by decide) rfl
        refine lv_iload hx hb dX11_layPays_19 (lv_at hl 3 rfl) ?_
        obtain ⟨q_33, hf⟩ := x_gE hf
        refine x_ald C hw h_32 q_33 dX11_layPays_21 ?_
        refine lv_i2l hx hb dX11_layPays_22 rfl ?_
        refine lv_ladd hx hb dX11_layPays_23 ?_
        refine lv_topl (fun x2_34 ex2_34 => ?_)
        have hf := x_lE ex2_34 hf
        refine lv_lstore_n (lv' := [(2, .long x2_34), (0, .ref (g.2.2.1 k0)), (1, .int a1), (4, .int x4_27)]) hx hb dX11_layPays_24 rfl hl (by decide) rfl (fun ls hl => ?_)
        obtain ⟨x4_35, ex4_35⟩ : ∃ z : Int32, z = (x4_27 + (1 : Int32)) := ⟨_, rfl⟩
        have hf := x_lE ex4_35 hf
        refine lv_iinc (v := x4_35) (lv' := [(4, .int x4_35), (2, .long x2_34), (0, .ref (g.2.2.1 k0)), (1, .int a1)]) hx hb dX11_layPays_25 hl (k := 3) rfl (by rw [ex4_35]; rfl) (by decide) rfl (fun ls hl => ?_)
        refine lv_goto (tgt := 5) hx hb dX11_layPays_28 (by decide) ?_
        exact ih_30 _ _ _ _ _ _ (lv_sub hl [2, 3, 1, 0] rfl) hw hf
  exact hL_36 _ _ _ _ _ _ _ (lv_sub hl [2, 3, 1, 0] rfl) hw hf
