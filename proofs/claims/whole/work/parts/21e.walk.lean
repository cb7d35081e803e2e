noncomputable def fX10_judge (M : xM) (a1 : Int32) : Option (Int32 × xM) := x_b (fX8_hasPerson M a1) fun v_3 M_1 => if v_3 = 0 then (some ((-1000000001 : Int32), M_1)) else (x_b (fX8_hasLaw M_1) fun v_7 M_5 => if v_7 = 0 then (some ((-1000000002 : Int32), M_5)) else (x_b (fX8_hasOpenDeed M_5 a1) fun v_11 M_9 => if v_11 = 0 then (some ((-1000000002 : Int32), M_9)) else (if (M_9 1 4) < (16 : Int32) then (x_b (fX8_joinedDays M_9 a1) fun v_16 M_14 => x_g a1 12 (x_l (if (M_14 (31 + a1.toNatClampNeg) 2) < v_16 then (M_14 (31 + a1.toNatClampNeg) 2) else v_16) fun x3_19 => x_g a1 12 (x_l (x_up M_14 (31 + a1.toNatClampNeg) 2 ((M_14 (31 + a1.toNatClampNeg) 2) - x3_19)) fun M_21 => x_g (M_21 1 4) 16 (x_v (fX2_begin M_21 (169 + (M_21 1 4).toNatClampNeg) a1 (M_21 1 0)) fun M_24 => x_l (x_up M_24 (169 + (M_21 1 4).toNatClampNeg) 2 (v_16 - x3_19)) fun M_26 => x_b (fX8_sumFor M_26 a1 (M_26 1 0) (M_26 1 0)) fun v_29 M_27 => x_l (x_up M_27 (169 + (M_21 1 4).toNatClampNeg) 3 v_29) fun M_30 => x_v (fX8_takeOpenDeeds M_30 a1 (M_30 1 4)) fun M_31 => x_l (x_up M_31 1 4 ((M_31 1 4) + (1 : Int32))) fun M_33 => some (((M_33 1 4) - (1 : Int32)), M_33))))) else (some ((-1000000003 : Int32), M_9)))))
set_option maxRecDepth 100000 in
set_option maxHeartbeats 4000000 in
theorem mX10_judge (l : Launch) (g : xG) {a1 : Int32} {r : Int32} {M' : xM}  {M : xM} (hf : fX10_judge M a1 = some (r, M')) : x_cI l g 0 yX10_judge cX10_judge 5 .int 5 122 [.ref (g.2.2.1 0), .int a1] M (fun v N => v = r ∧ N = M') := by
  refine x_stI RX10 (by decide) rfl (Nat.le_of_ble_eq_true rfl) ?_
  intro p e s m args below meth c Q ls C hw ret hl
  obtain ⟨hx, hb, hml, hown, hB, -⟩ := id C
  have hl : lv_has ls 5 [(0, .ref (g.2.2.1 0)), (1, .int a1)] := hl
  unfold fX10_judge at hf
  refine lv_aload_n hx hb dX10_judge_0 rfl (lv_at hl 0 rfl) ?_
  refine fg_X10_10 (k2 := 1) C hw ic0_0 rfl dX10_judge_1 ?_
  refine lv_iload_n hx hb dX10_judge_4 rfl (lv_at hl 1 rfl) ?_
  obtain ⟨tv_3, tM_1, c_2, hf⟩ := x_bE hf
  refine x_vI C hw hl.1 [.int a1] [] (mX8_hasPerson l g c_2) lk_X10_76 ic0_1 (by decide) rfl (by decide) rfl (Nat.le_of_ble_eq_true rfl) ⟨Nat.zero_le _, Nat.zero_le _⟩ dX10_judge_5 (fun v_3 M_1 H locs hN hw => ?_)
  obtain ⟨rfl, rfl⟩ := hN
  refine lv_if_ne (tgt := 14) hx hb dX10_judge_8 (by decide) (fun q_4 => ?_) (fun q_4 => ?_)
  · have hf := x_iN hf q_4
    refine lv_aload_n hx hb dX10_judge_14 rfl (lv_at hl 0 rfl) ?_
    refine fg_X10_10 (k2 := 1) C hw ic0_0 rfl dX10_judge_15 ?_
    obtain ⟨tv_7, tM_5, c_6, hf⟩ := x_bE hf
    refine x_vI C hw hl.1 [] [] (mX8_hasLaw l g c_6) lk_X10_205 ic0_1 (by decide) rfl (by decide) rfl (Nat.le_of_ble_eq_true rfl) ⟨Nat.zero_le _, Nat.zero_le _⟩ dX10_judge_18 (fun v_7 M_5 H locs hN hw => ?_)
    obtain ⟨rfl, rfl⟩ := hN
    refine lv_if_eq (tgt := 35) hx hb dX10_judge_21 (by decide) (fun q_8 => ?_) (fun q_8 => ?_)
    · have hf := x_iP hf q_8
      refine lv_ldc hx hb hown (hB _ mk_X10_91) dX10_judge_35 ?_
      exact ret hf dX10_judge_37 hw
    · have hf := x_iN hf q_8
      refine lv_aload_n hx hb dX10_judge_24 rfl (lv_at hl 0 rfl) ?_
      refine fg_X10_10 (k2 := 1) C hw ic0_0 rfl dX10_judge_25 ?_
      refine lv_iload_n hx hb dX10_judge_28 rfl (lv_at hl 1 rfl) ?_
      obtain ⟨tv_11, tM_9, c_10, hf⟩ := x_bE hf
      refine x_vI C hw hl.1 [.int a1] [] (mX8_hasOpenDeed l g c_10) lk_X10_214 ic0_1 (by decide) rfl (by decide) rfl (Nat.le_of_ble_eq_true rfl) ⟨Nat.zero_le _, Nat.zero_le _⟩ dX10_judge_29 (fun v_11 M_9 H locs hN hw => ?_)
      obtain ⟨rfl, rfl⟩ := hN
      refine lv_if_ne (tgt := 38) hx hb dX10_judge_32 (by decide) (fun q_12 => ?_) (fun q_12 => ?_)
      · have hf := x_iN hf q_12
        refine lv_aload_n hx hb dX10_judge_38 rfl (lv_at hl 0 rfl) ?_
        refine fg_X10_10 (k2 := 1) C hw ic0_0 rfl dX10_judge_39 ?_
        refine fg_X10_217 C hw ic0_1 dX10_judge_42 ?_
        refine lv_bipush (v := (16 : Int32)) hx hb dX10_judge_45 (by decide) ?_
        refine lv_icmp_lt (tgt := 53) hx hb dX10_judge_47 (by decide) (fun q_13 => ?_) (fun q_13 => ?_)
        · have hf := x_iP hf q_13
          refine lv_aload_n hx hb dX10_judge_53 rfl (lv_at hl 0 rfl) ?_
          refine fg_X10_10 (k2 := 1) C hw ic0_0 rfl dX10_judge_54 ?_
          refine lv_iload_n hx hb dX10_judge_57 rfl (lv_at hl 1 rfl) ?_
          obtain ⟨tv_16, tM_14, c_15, hf⟩ := x_bE hf
          refine x_vI C hw hl.1 [.int a1] [] (mX8_joinedDays l g c_15) lk_X10_220 ic0_1 (by decide) rfl (by decide) rfl (Nat.le_of_ble_eq_true rfl) ⟨Nat.zero_le _, Nat.zero_le _⟩ dX10_judge_58 (fun v_16 M_14 H locs hN hw => ?_)
          obtain ⟨rfl, rfl⟩ := hN
          refine lv_istore_n (lv' := [(2, .int v_16), (0, .ref (g.2.2.1 0)), (1, .int a1)]) hx hb dX10_judge_61 rfl hl (by decide) rfl (fun ls hl => ?_)
          refine lv_iload_n hx hb dX10_judge_62 rfl (lv_at hl 0 rfl) ?_
          refine lv_aload_n hx hb dX10_judge_63 rfl (lv_at hl 1 rfl) ?_
          refine fg_X10_10 (k2 := 1) C hw ic0_0 rfl dX10_judge_64 ?_
          refine fg_X10_66 (k2 := 19) C hw ic0_1 rfl dX10_judge_67 ?_
          refine lv_iload_n hx hb dX10_judge_70 rfl (lv_at hl 2 rfl) ?_
          obtain ⟨q_17, hf⟩ := x_gE hf
          refine x_rld (t := 5) (k2 := (31 + a1.toNatClampNeg)) C hw ic0_19 (by decide) rfl q_17 (rr0_19 _) dX10_judge_71 ?_
          have h_18 : x_is 0 (31 + a1.toNatClampNeg) 4 := (rr0_19 a1.toNatClampNeg) ▸ x_ta ic0_19 (by decide) (x_ilt q_17)
          refine fg_X10_122 C hw h_18 dX10_judge_72 ?_
          refine mm_X10_224 C hl.1 (Nat.le_of_ble_eq_true rfl) (Nat.le_of_ble_eq_true rfl) ⟨Nat.zero_le _, Nat.zero_le _⟩ dX10_judge_75 ?_
          refine lv_topi (fun x3_19 ex3_19 => ?_)
          have hf := x_lE ex3_19 hf
          refine lv_istore_n (lv' := [(3, .int x3_19), (2, .int v_16), (0, .ref (g.2.2.1 0)), (1, .int a1)]) hx hb dX10_judge_78 rfl hl (by decide) rfl (fun ls hl => ?_)
          refine lv_aload_n hx hb dX10_judge_79 rfl (lv_at hl 2 rfl) ?_
          refine fg_X10_10 (k2 := 1) C hw ic0_0 rfl dX10_judge_80 ?_
          refine fg_X10_66 (k2 := 19) C hw ic0_1 rfl dX10_judge_83 ?_
          refine lv_iload_n hx hb dX10_judge_86 rfl (lv_at hl 3 rfl) ?_
          obtain ⟨q_20, hf⟩ := x_gE hf
          refine x_rld (t := 5) (k2 := (31 + a1.toNatClampNeg)) C hw ic0_19 (by decide) rfl q_20 (rr0_19 _) dX10_judge_87 ?_
          refine lv_dup hx hb dX10_judge_88 rfl ?_
          refine fg_X10_122 C hw h_18 dX10_judge_89 ?_
          refine lv_iload_n hx hb dX10_judge_92 rfl (lv_at hl 0 rfl) ?_
          refine lv_isub hx hb dX10_judge_93 ?_
          refine fp_X10_122 C hw h_18 dX10_judge_94 (fun H locs hw => ?_)
          obtain ⟨M_21, eM_21⟩ : ∃ z, z = (x_up M_14 (31 + a1.toNatClampNeg) 2 ((M_14 (31 + a1.toNatClampNeg) 2) - x3_19)) := ⟨_, rfl⟩
          rw [← eM_21] at hw
          have hf := x_lE eM_21 hf
          refine lv_aload_n hx hb dX10_judge_97 rfl (lv_at hl 2 rfl) ?_
          refine fg_X10_10 (k2 := 1) C hw ic0_0 rfl dX10_judge_98 ?_
          refine fg_X10_230 (k2 := 22) C hw ic0_1 rfl dX10_judge_101 ?_
          refine lv_aload_n hx hb dX10_judge_104 rfl (lv_at hl 2 rfl) ?_
          refine fg_X10_10 (k2 := 1) C hw ic0_0 rfl dX10_judge_105 ?_
          refine fg_X10_217 C hw ic0_1 dX10_judge_108 ?_
          obtain ⟨q_22, hf⟩ := x_gE hf
          refine x_rld (t := 4) (k2 := (169 + (M_21 1 4).toNatClampNeg)) C hw ic0_22 (by decide) rfl q_22 (rr0_22 _) dX10_judge_111 ?_
          have h_23 : x_is 0 (169 + (M_21 1 4).toNatClampNeg) 2 := (rr0_22 (M_21 1 4).toNatClampNeg) ▸ x_ta ic0_22 (by decide) (x_ilt q_22)
          refine lv_astore (lv' := [(4, .ref (g.2.2.1 (169 + (M_21 1 4).toNatClampNeg))), (3, .int x3_19), (2, .int v_16), (0, .ref (g.2.2.1 0)), (1, .int a1)]) hx hb dX10_judge_112 hl (by decide) rfl (fun ls hl => ?_)
          refine lv_aload hx hb dX10_judge_114 (lv_at hl 0 rfl) ?_
          refine lv_iload_n hx hb dX10_judge_116 rfl (lv_at hl 4 rfl) ?_
          refine lv_aload_n hx hb dX10_judge_117 rfl (lv_at hl 3 rfl) ?_
          refine fg_X10_10 (k2 := 1) C hw ic0_0 rfl dX10_judge_118 ?_
          refine fg_X10_108 C hw ic0_1 dX10_judge_121 ?_
          obtain ⟨tM_24, c_25, hf⟩ := x_vE hf
          refine x_vV C hw hl.1 [.int a1, .int (M_21 1 0)] [] (mX2_begin l g h_23 c_25) lk_X10_234 h_23 (by decide) rfl (by decide) rfl (Nat.le_of_ble_eq_true rfl) ⟨Nat.zero_le _, Nat.zero_le _⟩ dX10_judge_124 (fun M_24 H locs hN hw => ?_)
          obtain rfl := hN
          refine lv_aload hx hb dX10_judge_127 (lv_at hl 0 rfl) ?_
          refine lv_iload_n hx hb dX10_judge_129 rfl (lv_at hl 2 rfl) ?_
          refine lv_iload_n hx hb dX10_judge_130 rfl (lv_at hl 1 rfl) ?_
          refine lv_isub hx hb dX10_judge_131 ?_
          refine fp_X10_239 C hw h_23 dX10_judge_132 (fun H locs hw => ?_)
          obtain ⟨M_26, eM_26⟩ : ∃ z, z = (x_up M_24 (169 + (M_21 1 4).toNatClampNeg) 2 (v_16 - x3_19)) := ⟨_, rfl⟩
          rw [← eM_26] at hw
          have hf := x_lE eM_26 hf
          refine lv_aload hx hb dX10_judge_135 (lv_at hl 0 rfl) ?_
          refine lv_aload_n hx hb dX10_judge_137 rfl (lv_at hl 3 rfl) ?_
          refine fg_X10_10 (k2 := 1) C hw ic0_0 rfl dX10_judge_138 ?_
          refine lv_iload_n hx hb dX10_judge_141 rfl (lv_at hl 4 rfl) ?_
          refine lv_aload_n hx hb dX10_judge_142 rfl (lv_at hl 3 rfl) ?_
          refine fg_X10_10 (k2 := 1) C hw ic0_0 rfl dX10_judge_143 ?_
          refine fg_X10_108 C hw ic0_1 dX10_judge_146 ?_
          refine lv_aload_n hx hb dX10_judge_149 rfl (lv_at hl 3 rfl) ?_
          refine fg_X10_10 (k2 := 1) C hw ic0_0 rfl dX10_judge_150 ?_
          refine fg_X10_108 C hw ic0_1 dX10_judge_153 ?_
          obtain ⟨tv_29, tM_27, c_28, hf⟩ := x_bE hf
          refine x_vI C hw hl.1 [.int a1, .int (M_26 1 0), .int (M_26 1 0)] [.ref (g.2.2.1 (169 + (M_21 1 4).toNatClampNeg))] (mX8_sumFor l g c_28) lk_X10_211 ic0_1 (by decide) rfl (by decide) rfl (Nat.le_of_ble_eq_true rfl) ⟨Nat.zero_le _, Nat.zero_le _⟩ dX10_judge_156 (fun v_29 M_27 H locs hN hw => ?_)
          obtain ⟨rfl, rfl⟩ := hN
          refine fp_X10_242 C hw h_23 dX10_judge_159 (fun H locs hw => ?_)
          obtain ⟨M_30, eM_30⟩ : ∃ z, z = (x_up M_27 (169 + (M_21 1 4).toNatClampNeg) 3 v_29) := ⟨_, rfl⟩
          rw [← eM_30] at hw
          have hf := x_lE eM_30 hf
          refine lv_aload_n hx hb dX10_judge_162 rfl (lv_at hl 3 rfl) ?_
          refine fg_X10_10 (k2 := 1) C hw ic0_0 rfl dX10_judge_163 ?_
          refine lv_iload_n hx hb dX10_judge_166 rfl (lv_at hl 4 rfl) ?_
          refine lv_aload_n hx hb dX10_judge_167 rfl (lv_at hl 3 rfl) ?_
          refine fg_X10_10 (k2 := 1) C hw ic0_0 rfl dX10_judge_168 ?_
          refine fg_X10_217 C hw ic0_1 dX10_judge_171 ?_
          obtain ⟨tM_31, c_32, hf⟩ := x_vE hf
          refine x_vV C hw hl.1 [.int a1, .int (M_30 1 4)] [] (mX8_takeOpenDeeds l g c_32) lk_X10_245 ic0_1 (by decide) rfl (by decide) rfl (Nat.le_of_ble_eq_true rfl) ⟨Nat.zero_le _, Nat.zero_le _⟩ dX10_judge_174 (fun M_31 H locs hN hw => ?_)
          obtain rfl := hN
          refine lv_aload_n hx hb dX10_judge_177 rfl (lv_at hl 3 rfl) ?_
          refine fg_X10_10 (k2 := 1) C hw ic0_0 rfl dX10_judge_178 ?_
          refine lv_dup hx hb dX10_judge_181 rfl ?_
          refine fg_X10_217 C hw ic0_1 dX10_judge_182 ?_
          refine lv_iconst (v := (1 : Int32)) hx hb dX10_judge_185 (by decide) ?_
          refine lv_iadd hx hb dX10_judge_186 ?_
          refine fp_X10_217 C hw ic0_1 dX10_judge_187 (fun H locs hw => ?_)
          obtain ⟨M_33, eM_33⟩ : ∃ z, z = (x_up M_31 1 4 ((M_31 1 4) + (1 : Int32))) := ⟨_, rfl⟩
          rw [← eM_33] at hw
          have hf := x_lE eM_33 hf
          refine lv_aload_n hx hb dX10_judge_190 rfl (lv_at hl 3 rfl) ?_
          refine fg_X10_10 (k2 := 1) C hw ic0_0 rfl dX10_judge_191 ?_
          refine fg_X10_217 C hw ic0_1 dX10_judge_194 ?_
          refine lv_iconst (v := (1 : Int32)) hx hb dX10_judge_197 (by decide) ?_
          refine lv_isub hx hb dX10_judge_198 ?_
          exact ret hf dX10_judge_199 hw
        · have hf := x_iN hf q_13
          refine lv_ldc hx hb hown (hB _ mk_X10_65) dX10_judge_50 ?_
          exact ret hf dX10_judge_52 hw
      · have hf := x_iP hf q_12
        refine lv_ldc hx hb hown (hB _ mk_X10_91) dX10_judge_35 ?_
        exact ret hf dX10_judge_37 hw
  · have hf := x_iP hf q_4
    refine lv_ldc hx hb hown (hB _ mk_X10_61) dX10_judge_11 ?_
    exact ret hf dX10_judge_13 hw
noncomputable def fX10_about (M : xM) (a1 : Int32) (a2 : Int32) : Option (Int32 × xM) := x_b (fX8_hasJudgment M a1) fun v_3 M_1 => if v_3 = 0 then (some ((-1000000001 : Int32), M_1)) else (x_g a1 16 (if a2 = (0 : Int32) then (some ((M_1 (169 + a1.toNatClampNeg) 0), M_1)) else (if a2 = (1 : Int32) then (some ((M_1 (169 + a1.toNatClampNeg) 1), M_1)) else (if a2 = (2 : Int32) then (some ((M_1 (169 + a1.toNatClampNeg) 2), M_1)) else (if a2 = (3 : Int32) then (some ((M_1 (169 + a1.toNatClampNeg) 3), M_1)) else (if a2 = (4 : Int32) then (x_b (fX2_fine M_1 (169 + a1.toNatClampNeg)) fun v_14 M_12 => some (v_14, M_12)) else (if a2 = (5 : Int32) then (some ((M_1 (169 + a1.toNatClampNeg) 4), M_1)) else (if a2 = (6 : Int32) then (x_b (fX2_unpaidCoins M_1 (169 + a1.toNatClampNeg)) fun v_19 M_17 => some (v_19, M_17)) else (if a2 = (7 : Int32) then (x_b (fX2_unpaidDays M_1 (169 + a1.toNatClampNeg)) fun v_23 M_21 => some (v_23, M_21)) else (if a2 = (8 : Int32) then (some ((M_1 (169 + a1.toNatClampNeg) 5), M_1)) else (if a2 = (9 : Int32) then (some ((M_1 (169 + a1.toNatClampNeg) 7), M_1)) else (if a2 = (10 : Int32) then (x_b (fX8_deedsIn M_1 a1) fun v_29 M_27 => some (v_29, M_27)) else (if a2 = (11 : Int32) then (x_b (fX2_fine M_1 (169 + a1.toNatClampNeg)) fun v_33 M_31 => x_b (fX8_shareOf M_31 a1 v_33) fun v_36 M_34 => some (v_36, M_34)) else (if a2 = (12 : Int32) then (x_b (fX8_flatOf M_1 a1) fun v_40 M_38 => x_b (fX8_shareOf M_38 a1 v_40) fun v_43 M_41 => some (v_43, M_41)) else (if a2 = (13 : Int32) then (some (((M_1 (169 + a1.toNatClampNeg) 1) + (M_1 23 12)), M_1)) else (some ((-1000000001 : Int32), M_1)))))))))))))))))
set_option maxRecDepth 100000 in
set_option maxHeartbeats 4000000 in
theorem mX10_about (l : Launch) (g : xG) {a1 : Int32} {a2 : Int32} {r : Int32} {M' : xM}  {M : xM} (hf : fX10_about M a1 a2 = some (r, M')) : x_cI l g 0 yX10_about cX10_about 4 .int 5 123 [.ref (g.2.2.1 0), .int a1, .int a2] M (fun v N => v = r ∧ N = M') := by
  refine x_stI RX10 (by decide) rfl (Nat.le_of_ble_eq_true rfl) ?_
  intro p e s m args below meth c Q ls C hw ret hl
  obtain ⟨hx, hb, hml, hown, hB, -⟩ := id C
  have hl : lv_has ls 4 [(0, .ref (g.2.2.1 0)), (1, .int a1), (2, .int a2)] := hl
  unfold fX10_about at hf
  refine lv_aload_n hx hb dX10_about_0 rfl (lv_at hl 0 rfl) ?_
  refine fg_X10_10 (k2 := 1) C hw ic0_0 rfl dX10_about_1 ?_
  refine lv_iload_n hx hb dX10_about_4 rfl (lv_at hl 1 rfl) ?_
  obtain ⟨tv_3, tM_1, c_2, hf⟩ := x_bE hf
  refine x_vI C hw hl.1 [.int a1] [] (mX8_hasJudgment l g c_2) lk_X10_248 ic0_1 (by decide) rfl (by decide) rfl (Nat.le_of_ble_eq_true rfl) ⟨Nat.zero_le _, Nat.zero_le _⟩ dX10_about_5 (fun v_3 M_1 H locs hN hw => ?_)
  obtain ⟨rfl, rfl⟩ := hN
  refine lv_if_ne (tgt := 14) hx hb dX10_about_8 (by decide) (fun q_4 => ?_) (fun q_4 => ?_)
  · have hf := x_iN hf q_4
    refine lv_aload_n hx hb dX10_about_14 rfl (lv_at hl 0 rfl) ?_
    refine fg_X10_10 (k2 := 1) C hw ic0_0 rfl dX10_about_15 ?_
    refine fg_X10_230 (k2 := 22) C hw ic0_1 rfl dX10_about_18 ?_
    refine lv_iload_n hx hb dX10_about_21 rfl (lv_at hl 1 rfl) ?_
    obtain ⟨q_5, hf⟩ := x_gE hf
    refine x_rld (t := 4) (k2 := (169 + a1.toNatClampNeg)) C hw ic0_22 (by decide) rfl q_5 (rr0_22 _) dX10_about_22 ?_
    have h_6 : x_is 0 (169 + a1.toNatClampNeg) 2 := (rr0_22 a1.toNatClampNeg) ▸ x_ta ic0_22 (by decide) (x_ilt q_5)
    refine lv_astore_n (lv' := [(3, .ref (g.2.2.1 (169 + a1.toNatClampNeg))), (0, .ref (g.2.2.1 0)), (1, .int a1), (2, .int a2)]) hx hb dX10_about_23 rfl hl (by decide) rfl (fun ls hl => ?_)
    refine lv_iload_n hx hb dX10_about_24 rfl (lv_at hl 3 rfl) ?_
    by_cases q_7 : a2 = (0 : Int32)
    · have hf := x_iP hf q_7
      refine lv_tableIn (off := 71) (tgt := 96) hx hb dX10_about_25 (by rw [q_7]; decide) (by rw [q_7]; decide) (by rw [q_7]; rfl) (by decide) ?_
      refine lv_aload_n hx hb dX10_about_96 rfl (lv_at hl 0 rfl) ?_
      refine fg_X10_251 C hw h_6 dX10_about_97 ?_
      exact ret hf dX10_about_100 hw
    have hf := x_iN hf q_7
    by_cases q_8 : a2 = (1 : Int32)
    · have hf := x_iP hf q_8
      refine lv_tableIn (off := 76) (tgt := 101) hx hb dX10_about_25 (by rw [q_8]; decide) (by rw [q_8]; decide) (by rw [q_8]; rfl) (by decide) ?_
      refine lv_aload_n hx hb dX10_about_101 rfl (lv_at hl 0 rfl) ?_
      refine fg_X10_252 C hw h_6 dX10_about_102 ?_
      exact ret hf dX10_about_105 hw
    have hf := x_iN hf q_8
    by_cases q_9 : a2 = (2 : Int32)
    · have hf := x_iP hf q_9
      refine lv_tableIn (off := 81) (tgt := 106) hx hb dX10_about_25 (by rw [q_9]; decide) (by rw [q_9]; decide) (by rw [q_9]; rfl) (by decide) ?_
      refine lv_aload_n hx hb dX10_about_106 rfl (lv_at hl 0 rfl) ?_
      refine fg_X10_239 C hw h_6 dX10_about_107 ?_
      exact ret hf dX10_about_110 hw
    have hf := x_iN hf q_9
    by_cases q_10 : a2 = (3 : Int32)
    · have hf := x_iP hf q_10
      refine lv_tableIn (off := 86) (tgt := 111) hx hb dX10_about_25 (by rw [q_10]; decide) (by rw [q_10]; decide) (by rw [q_10]; rfl) (by decide) ?_
      refine lv_aload_n hx hb dX10_about_111 rfl (lv_at hl 0 rfl) ?_
      refine fg_X10_242 C hw h_6 dX10_about_112 ?_
      exact ret hf dX10_about_115 hw
    have hf := x_iN hf q_10
    by_cases q_11 : a2 = (4 : Int32)
    · have hf := x_iP hf q_11
      refine lv_tableIn (off := 91) (tgt := 116) hx hb dX10_about_25 (by rw [q_11]; decide) (by rw [q_11]; decide) (by rw [q_11]; rfl) (by decide) ?_
      refine lv_aload_n hx hb dX10_about_116 rfl (lv_at hl 0 rfl) ?_
      obtain ⟨tv_14, tM_12, c_13, hf⟩ := x_bE hf
      refine x_vI C hw hl.1 [] [] (mX2_fine l g h_6 c_13) lk_X10_253 h_6 (by decide) rfl (by decide) rfl (Nat.le_of_ble_eq_true rfl) ⟨Nat.zero_le _, Nat.zero_le _⟩ dX10_about_117 (fun v_14 M_12 H locs hN hw => ?_)
      obtain ⟨rfl, rfl⟩ := hN
      exact ret hf dX10_about_120 hw
    have hf := x_iN hf q_11
    by_cases q_15 : a2 = (5 : Int32)
    · have hf := x_iP hf q_15
      refine lv_tableIn (off := 96) (tgt := 121) hx hb dX10_about_25 (by rw [q_15]; decide) (by rw [q_15]; decide) (by rw [q_15]; rfl) (by decide) ?_
      refine lv_aload_n hx hb dX10_about_121 rfl (lv_at hl 0 rfl) ?_
      refine fg_X10_256 C hw h_6 dX10_about_122 ?_
      exact ret hf dX10_about_125 hw
    have hf := x_iN hf q_15
    by_cases q_16 : a2 = (6 : Int32)
    · have hf := x_iP hf q_16
      refine lv_tableIn (off := 101) (tgt := 126) hx hb dX10_about_25 (by rw [q_16]; decide) (by rw [q_16]; decide) (by rw [q_16]; rfl) (by decide) ?_
      refine lv_aload_n hx hb dX10_about_126 rfl (lv_at hl 0 rfl) ?_
      obtain ⟨tv_19, tM_17, c_18, hf⟩ := x_bE hf
      refine x_vI C hw hl.1 [] [] (mX2_unpaidCoins l g h_6 c_18) lk_X10_259 h_6 (by decide) rfl (by decide) rfl (Nat.le_of_ble_eq_true rfl) ⟨Nat.zero_le _, Nat.zero_le _⟩ dX10_about_127 (fun v_19 M_17 H locs hN hw => ?_)
      obtain ⟨rfl, rfl⟩ := hN
      exact ret hf dX10_about_130 hw
    have hf := x_iN hf q_16
    by_cases q_20 : a2 = (7 : Int32)
    · have hf := x_iP hf q_20
      refine lv_tableIn (off := 106) (tgt := 131) hx hb dX10_about_25 (by rw [q_20]; decide) (by rw [q_20]; decide) (by rw [q_20]; rfl) (by decide) ?_
      refine lv_aload_n hx hb dX10_about_131 rfl (lv_at hl 0 rfl) ?_
      obtain ⟨tv_23, tM_21, c_22, hf⟩ := x_bE hf
      refine x_vI C hw hl.1 [] [] (mX2_unpaidDays l g h_6 c_22) lk_X10_262 h_6 (by decide) rfl (by decide) rfl (Nat.le_of_ble_eq_true rfl) ⟨Nat.zero_le _, Nat.zero_le _⟩ dX10_about_132 (fun v_23 M_21 H locs hN hw => ?_)
      obtain ⟨rfl, rfl⟩ := hN
      exact ret hf dX10_about_135 hw
    have hf := x_iN hf q_20
    by_cases q_24 : a2 = (8 : Int32)
    · have hf := x_iP hf q_24
      refine lv_tableIn (off := 111) (tgt := 136) hx hb dX10_about_25 (by rw [q_24]; decide) (by rw [q_24]; decide) (by rw [q_24]; rfl) (by decide) ?_
      refine lv_aload_n hx hb dX10_about_136 rfl (lv_at hl 0 rfl) ?_
      refine fg_X10_265 C hw h_6 dX10_about_137 ?_
      exact ret hf dX10_about_140 hw
    have hf := x_iN hf q_24
    by_cases q_25 : a2 = (9 : Int32)
    · have hf := x_iP hf q_25
      refine lv_tableIn (off := 116) (tgt := 141) hx hb dX10_about_25 (by rw [q_25]; decide) (by rw [q_25]; decide) (by rw [q_25]; rfl) (by decide) ?_
      refine lv_aload_n hx hb dX10_about_141 rfl (lv_at hl 0 rfl) ?_
      refine fg_X10_268 C hw h_6 dX10_about_142 ?_
      exact ret hf dX10_about_145 hw
    have hf := x_iN hf q_25
    by_cases q_26 : a2 = (10 : Int32)
    · have hf := x_iP hf q_26
      refine lv_tableIn (off := 121) (tgt := 146) hx hb dX10_about_25 (by rw [q_26]; decide) (by rw [q_26]; decide) (by rw [q_26]; rfl) (by decide) ?_
      refine lv_aload_n hx hb dX10_about_146 rfl (lv_at hl 1 rfl) ?_
      refine fg_X10_10 (k2 := 1) C hw ic0_0 rfl dX10_about_147 ?_
      refine lv_iload_n hx hb dX10_about_150 rfl (lv_at hl 2 rfl) ?_
      obtain ⟨tv_29, tM_27, c_28, hf⟩ := x_bE hf
      refine x_vI C hw hl.1 [.int a1] [] (mX8_deedsIn l g c_28) lk_X10_271 ic0_1 (by decide) rfl (by decide) rfl (Nat.le_of_ble_eq_true rfl) ⟨Nat.zero_le _, Nat.zero_le _⟩ dX10_about_151 (fun v_29 M_27 H locs hN hw => ?_)
      obtain ⟨rfl, rfl⟩ := hN
      exact ret hf dX10_about_154 hw
    have hf := x_iN hf q_26
    by_cases q_30 : a2 = (11 : Int32)
    · have hf := x_iP hf q_30
      refine lv_tableIn (off := 130) (tgt := 155) hx hb dX10_about_25 (by rw [q_30]; decide) (by rw [q_30]; decide) (by rw [q_30]; rfl) (by decide) ?_
      refine lv_aload_n hx hb dX10_about_155 rfl (lv_at hl 1 rfl) ?_
      refine fg_X10_10 (k2 := 1) C hw ic0_0 rfl dX10_about_156 ?_
      refine lv_iload_n hx hb dX10_about_159 rfl (lv_at hl 2 rfl) ?_
      refine lv_aload_n hx hb dX10_about_160 rfl (lv_at hl 0 rfl) ?_
      obtain ⟨tv_33, tM_31, c_32, hf⟩ := x_bE hf
      refine x_vI C hw hl.1 [] [.int a1, .ref (g.2.2.1 1)] (mX2_fine l g h_6 c_32) lk_X10_253 h_6 (by decide) rfl (by decide) rfl (Nat.le_of_ble_eq_true rfl) ⟨Nat.zero_le _, Nat.zero_le _⟩ dX10_about_161 (fun v_33 M_31 H locs hN hw => ?_)
      obtain ⟨rfl, rfl⟩ := hN
      obtain ⟨tv_36, tM_34, c_35, hf⟩ := x_bE hf
      refine x_vI C hw hl.1 [.int a1, .int v_33] [] (mX8_shareOf l g c_35) lk_X10_274 ic0_1 (by decide) rfl (by decide) rfl (Nat.le_of_ble_eq_true rfl) ⟨Nat.zero_le _, Nat.zero_le _⟩ dX10_about_164 (fun v_36 M_34 H locs hN hw => ?_)
      obtain ⟨rfl, rfl⟩ := hN
      exact ret hf dX10_about_167 hw
    have hf := x_iN hf q_30
    by_cases q_37 : a2 = (12 : Int32)
    · have hf := x_iP hf q_37
      refine lv_tableIn (off := 143) (tgt := 168) hx hb dX10_about_25 (by rw [q_37]; decide) (by rw [q_37]; decide) (by rw [q_37]; rfl) (by decide) ?_
      refine lv_aload_n hx hb dX10_about_168 rfl (lv_at hl 1 rfl) ?_
      refine fg_X10_10 (k2 := 1) C hw ic0_0 rfl dX10_about_169 ?_
      refine lv_iload_n hx hb dX10_about_172 rfl (lv_at hl 2 rfl) ?_
      refine lv_aload_n hx hb dX10_about_173 rfl (lv_at hl 1 rfl) ?_
      refine fg_X10_10 (k2 := 1) C hw ic0_0 rfl dX10_about_174 ?_
      refine lv_iload_n hx hb dX10_about_177 rfl (lv_at hl 2 rfl) ?_
      obtain ⟨tv_40, tM_38, c_39, hf⟩ := x_bE hf
      refine x_vI C hw hl.1 [.int a1] [.int a1, .ref (g.2.2.1 1)] (mX8_flatOf l g c_39) lk_X10_277 ic0_1 (by decide) rfl (by decide) rfl (Nat.le_of_ble_eq_true rfl) ⟨Nat.zero_le _, Nat.zero_le _⟩ dX10_about_178 (fun v_40 M_38 H locs hN hw => ?_)
      obtain ⟨rfl, rfl⟩ := hN
      obtain ⟨tv_43, tM_41, c_42, hf⟩ := x_bE hf
      refine x_vI C hw hl.1 [.int a1, .int v_40] [] (mX8_shareOf l g c_42) lk_X10_274 ic0_1 (by decide) rfl (by decide) rfl (Nat.le_of_ble_eq_true rfl) ⟨Nat.zero_le _, Nat.zero_le _⟩ dX10_about_181 (fun v_43 M_41 H locs hN hw => ?_)
      obtain ⟨rfl, rfl⟩ := hN
      exact ret hf dX10_about_184 hw
    have hf := x_iN hf q_37
    by_cases q_44 : a2 = (13 : Int32)
    · have hf := x_iP hf q_44
      refine lv_tableIn (off := 160) (tgt := 185) hx hb dX10_about_25 (by rw [q_44]; decide) (by rw [q_44]; decide) (by rw [q_44]; rfl) (by decide) ?_
      refine lv_aload_n hx hb dX10_about_185 rfl (lv_at hl 0 rfl) ?_
      refine fg_X10_252 C hw h_6 dX10_about_186 ?_
      refine lv_aload_n hx hb dX10_about_189 rfl (lv_at hl 1 rfl) ?_
      refine fg_X10_10 (k2 := 1) C hw ic0_0 rfl dX10_about_190 ?_
      refine fg_X10_128 (k2 := 23) C hw ic0_1 rfl dX10_about_193 ?_
      refine lv_bipush (v := (12 : Int32)) hx hb dX10_about_196 (by decide) ?_
      refine x_ald (j := 12) C hw ic0_23 (x_inl rfl) rfl dX10_about_198 ?_
      refine lv_iadd hx hb dX10_about_199 ?_
      exact ret hf dX10_about_200 hw
    have hf := x_iN hf q_44
    have tq_7 := lv_neT (a := 0) q_7 rfl
    have tq_8 := lv_neT (a := 1) q_8 rfl
    have tq_9 := lv_neT (a := 2) q_9 rfl
    have tq_10 := lv_neT (a := 3) q_10 rfl
    have tq_11 := lv_neT (a := 4) q_11 rfl
    have tq_15 := lv_neT (a := 5) q_15 rfl
    have tq_16 := lv_neT (a := 6) q_16 rfl
    have tq_20 := lv_neT (a := 7) q_20 rfl
    have tq_24 := lv_neT (a := 8) q_24 rfl
    have tq_25 := lv_neT (a := 9) q_25 rfl
    have tq_26 := lv_neT (a := 10) q_26 rfl
    have tq_30 := lv_neT (a := 11) q_30 rfl
    have tq_37 := lv_neT (a := 12) q_37 rfl
    have tq_44 := lv_neT (a := 13) q_44 rfl
    refine lv_tableOut (tgt := 201) hx hb dX10_about_25 (by omega) (by decide) ?_
    refine lv_ldc hx hb hown (hB _ mk_X10_61) dX10_about_201 ?_
    exact ret hf dX10_about_203 hw
  · have hf := x_iP hf q_4
    refine lv_ldc hx hb hown (hB _ mk_X10_61) dX10_about_11 ?_
    exact ret hf dX10_about_13 hw
noncomputable def fX10_appeal (M : xM) (a1 : Int32) (a2 : Int32) (a3 : Int32) : Option (Int32 × xM) := x_b (fX8_hasJudgment M a1) fun v_3 M_1 => if v_3 = 0 then (some ((-1000000001 : Int32), M_1)) else (x_b (fX10_isWithin M_1 a2 (0 : Int32) (1 : Int32)) fun v_7 M_5 => if v_7 = 0 then (some ((-1000000001 : Int32), M_5)) else (x_l (fun (M_11 : xM) (z_9 : Int32) => x_b (fX10_isWithin M_11 a3 (0 : Int32) z_9) fun v_14 M_12 => if v_14 = 0 then (some ((-1000000001 : Int32), M_12)) else (x_g a1 16 (x_l (fun (M_20 : xM) (z_18 : Int32) => if z_18 = 0 then (if (M_20 (169 + a1.toNatClampNeg) 5) = (3 : Int32) then (some ((-1000000002 : Int32), M_20)) else (if ((M_20 1 0) - (M_20 (169 + a1.toNatClampNeg) 1)) ≤ (M_20 23 8) then (if a2 = 0 then (x_b (fX2_appealDays M_20 (169 + a1.toNatClampNeg) a3) fun v_31 M_29 => some (v_31, M_29)) else (x_b (fX2_appealSum M_20 (169 + a1.toNatClampNeg) a3) fun v_28 M_26 => some (v_28, M_26))) else (some ((-1000000002 : Int32), M_20)))) else (some ((-1000000002 : Int32), M_20))) fun k88_19 => if a2 = 0 then (k88_19 M_12 (M_12 (169 + a1.toNatClampNeg) 8)) else (k88_19 M_12 (M_12 (169 + a1.toNatClampNeg) 9))))) fun k51_10 => if a2 = 0 then (k51_10 M_5 (M_5 23 3)) else (k51_10 M_5 (M_5 23 7))))
set_option maxRecDepth 100000 in
set_option maxHeartbeats 4000000 in
theorem mX10_appeal (l : Launch) (g : xG) {a1 : Int32} {a2 : Int32} {a3 : Int32} {r : Int32} {M' : xM}  {M : xM} (hf : fX10_appeal M a1 a2 a3 = some (r, M')) : x_cI l g 0 yX10_appeal cX10_appeal 6 .int 2 43 [.ref (g.2.2.1 0), .int a1, .int a2, .int a3] M (fun v N => v = r ∧ N = M') := by
  refine x_stI RX10 (by decide) rfl (Nat.le_of_ble_eq_true rfl) ?_
  intro p e s m args below meth c Q ls C hw ret hl
  obtain ⟨hx, hb, hml, hown, hB, -⟩ := id C
  have hl : lv_has ls 6 [(0, .ref (g.2.2.1 0)), (1, .int a1), (2, .int a2), (3, .int a3)] := hl
  unfold fX10_appeal at hf
  refine lv_aload_n hx hb dX10_appeal_0 rfl (lv_at hl 0 rfl) ?_
  refine fg_X10_10 (k2 := 1) C hw ic0_0 rfl dX10_appeal_1 ?_
  refine lv_iload_n hx hb dX10_appeal_4 rfl (lv_at hl 1 rfl) ?_
  obtain ⟨tv_3, tM_1, c_2, hf⟩ := x_bE hf
  refine x_vI C hw hl.1 [.int a1] [] (mX8_hasJudgment l g c_2) lk_X10_248 ic0_1 (by decide) rfl (by decide) rfl (Nat.le_of_ble_eq_true rfl) ⟨Nat.zero_le _, Nat.zero_le _⟩ dX10_appeal_5 (fun v_3 M_1 H locs hN hw => ?_)
  obtain ⟨rfl, rfl⟩ := hN
  refine lv_if_eq (tgt := 20) hx hb dX10_appeal_8 (by decide) (fun q_4 => ?_) (fun q_4 => ?_)
  · have hf := x_iP hf q_4
    refine lv_ldc hx hb hown (hB _ mk_X10_61) dX10_appeal_20 ?_
    exact ret hf dX10_appeal_22 hw
  · have hf := x_iN hf q_4
    refine lv_iload_n hx hb dX10_appeal_11 rfl (lv_at hl 2 rfl) ?_
    refine lv_iconst (v := (0 : Int32)) hx hb dX10_appeal_12 (by decide) ?_
    refine lv_iconst (v := (1 : Int32)) hx hb dX10_appeal_13 (by decide) ?_
    obtain ⟨tv_7, tM_5, c_6, hf⟩ := x_bE hf
    refine x_sI C hw hl.1 [.int a2, .int (0 : Int32), .int (1 : Int32)] [] (mX10_isWithin l g c_6) lk_X10_57 (by decide) rfl (Nat.le_of_ble_eq_true rfl) ⟨Nat.zero_le _, Nat.zero_le _⟩ dX10_appeal_14 (fun v_7 M_5 H locs hN hw => ?_)
    obtain ⟨rfl, rfl⟩ := hN
    refine lv_if_ne (tgt := 23) hx hb dX10_appeal_17 (by decide) (fun q_8 => ?_) (fun q_8 => ?_)
    · have hf := x_iN hf q_8
      refine lv_iload_n hx hb dX10_appeal_23 rfl (lv_at hl 3 rfl) ?_
      refine lv_iconst (v := (0 : Int32)) hx hb dX10_appeal_24 (by decide) ?_
      refine lv_iload_n hx hb dX10_appeal_25 rfl (lv_at hl 2 rfl) ?_
      obtain ⟨k51_10, ek51_10, hf⟩ := x_jE hf
      have hk51_10 : ∀ (H : Heap) (locs : List Loc) (M_11 : xM) (z_9 : Int32) (ls : Array Slot) , lv_has ls 6 [(0, .ref (g.2.2.1 0)), (1, .int a1), (2, .int a2), (3, .int a3)] → x_w g 0 s H locs M_11 → k51_10 M_11 z_9 = some (r, M') → W p l e (x_rm 2 43) s m args below meth c H locs 0 0 Q (F0 m 51 ls [.int z_9, .int (0 : Int32), .int a3]) := by
        intro H locs M_11 z_9 ls  hl hw hf
        rw [ek51_10] at hf
        obtain ⟨tv_14, tM_12, c_13, hf⟩ := x_bE hf
        refine x_sI C hw hl.1 [.int a3, .int (0 : Int32), .int z_9] [] (mX10_isWithin l g c_13) lk_X10_57 (by decide) rfl (Nat.le_of_ble_eq_true rfl) ⟨Nat.zero_le _, Nat.zero_le _⟩ dX10_appeal_51 (fun v_14 M_12 H locs hN hw => ?_)
        obtain ⟨rfl, rfl⟩ := hN
        refine lv_if_ne (tgt := 60) hx hb dX10_appeal_54 (by decide) (fun q_15 => ?_) (fun q_15 => ?_)
        · have hf := x_iN hf q_15
          refine lv_aload_n hx hb dX10_appeal_60 rfl (lv_at hl 0 rfl) ?_
          refine fg_X10_10 (k2 := 1) C hw ic0_0 rfl dX10_appeal_61 ?_
          refine fg_X10_230 (k2 := 22) C hw ic0_1 rfl dX10_appeal_64 ?_
          refine lv_iload_n hx hb dX10_appeal_67 rfl (lv_at hl 1 rfl) ?_
          obtain ⟨q_16, hf⟩ := x_gE hf
          refine x_rld (t := 4) (k2 := (169 + a1.toNatClampNeg)) C hw ic0_22 (by decide) rfl q_16 (rr0_22 _) dX10_appeal_68 ?_
          have h_17 : x_is 0 (169 + a1.toNatClampNeg) 2 := (rr0_22 a1.toNatClampNeg) ▸ x_ta ic0_22 (by decide) (x_ilt q_16)
          refine lv_astore (lv' := [(4, .ref (g.2.2.1 (169 + a1.toNatClampNeg))), (0, .ref (g.2.2.1 0)), (1, .int a1), (2, .int a2), (3, .int a3)]) hx hb dX10_appeal_69 hl (by decide) rfl (fun ls hl => ?_)
          refine lv_iload_n hx hb dX10_appeal_71 rfl (lv_at hl 3 rfl) ?_
          obtain ⟨k88_19, ek88_19, hf⟩ := x_jE hf
          have hk88_19 : ∀ (H : Heap) (locs : List Loc) (M_20 : xM) (z_18 : Int32) (ls : Array Slot) , lv_has ls 6 [(4, .ref (g.2.2.1 (169 + a1.toNatClampNeg))), (0, .ref (g.2.2.1 0)), (2, .int a2), (3, .int a3)] → x_w g 0 s H locs M_20 → k88_19 M_20 z_18 = some (r, M') → W p l e (x_rm 2 43) s m args below meth c H locs 0 0 Q (F0 m 88 ls [.int z_18]) := by
            intro H locs M_20 z_18 ls  hl hw hf
            rw [ek88_19] at hf
            refine lv_istore (lv' := [(5, .int z_18), (4, .ref (g.2.2.1 (169 + a1.toNatClampNeg))), (0, .ref (g.2.2.1 0)), (2, .int a2), (3, .int a3)]) hx hb dX10_appeal_88 hl (by decide) rfl (fun ls hl => ?_)
            refine lv_iload hx hb dX10_appeal_90 (lv_at hl 0 rfl) ?_
            refine lv_if_ne (tgt := 130) hx hb dX10_appeal_92 (by decide) (fun q_21 => ?_) (fun q_21 => ?_)
            · have hf := x_iN hf q_21
              refine lv_ldc hx hb hown (hB _ mk_X10_91) dX10_appeal_130 ?_
              exact ret hf dX10_appeal_132 hw
            · have hf := x_iP hf q_21
              refine lv_aload hx hb dX10_appeal_95 (lv_at hl 1 rfl) ?_
              refine fg_X10_265 C hw h_17 dX10_appeal_97 ?_
              refine lv_iconst (v := (3 : Int32)) hx hb dX10_appeal_100 (by decide) ?_
              refine lv_icmp_eq (tgt := 130) hx hb dX10_appeal_101 (by decide) (fun q_22 => ?_) (fun q_22 => ?_)
              · have hf := x_iP hf q_22
                refine lv_ldc hx hb hown (hB _ mk_X10_91) dX10_appeal_130 ?_
                exact ret hf dX10_appeal_132 hw
              · have hf := x_iN hf q_22
                refine lv_aload_n hx hb dX10_appeal_104 rfl (lv_at hl 2 rfl) ?_
                refine fg_X10_10 (k2 := 1) C hw ic0_0 rfl dX10_appeal_105 ?_
                refine fg_X10_108 C hw ic0_1 dX10_appeal_108 ?_
                refine lv_aload hx hb dX10_appeal_111 (lv_at hl 1 rfl) ?_
                refine fg_X10_252 C hw h_17 dX10_appeal_113 ?_
                refine lv_isub hx hb dX10_appeal_116 ?_
                refine lv_aload_n hx hb dX10_appeal_117 rfl (lv_at hl 2 rfl) ?_
                refine fg_X10_10 (k2 := 1) C hw ic0_0 rfl dX10_appeal_118 ?_
                refine fg_X10_128 (k2 := 23) C hw ic0_1 rfl dX10_appeal_121 ?_
                refine lv_bipush (v := (8 : Int32)) hx hb dX10_appeal_124 (by decide) ?_
                refine x_ald (j := 8) C hw ic0_23 (x_inl rfl) rfl dX10_appeal_126 ?_
                refine lv_icmp_le (tgt := 133) hx hb dX10_appeal_127 (by decide) (fun q_24 => ?_) (fun q_24 => ?_)
                · have hf := x_iP hf q_24
                  refine lv_iload_n hx hb dX10_appeal_133 rfl (lv_at hl 3 rfl) ?_
                  refine lv_if_ne (tgt := 146) hx hb dX10_appeal_134 (by decide) (fun q_25 => ?_) (fun q_25 => ?_)
                  · have hf := x_iN hf q_25
                    refine lv_aload hx hb dX10_appeal_146 (lv_at hl 1 rfl) ?_
                    refine lv_iload_n hx hb dX10_appeal_148 rfl (lv_at hl 4 rfl) ?_
                    obtain ⟨tv_28, tM_26, c_27, hf⟩ := x_bE hf
                    refine x_vI C hw hl.1 [.int a3] [] (mX2_appealSum l g h_17 c_27) lk_X10_289 h_17 (by decide) rfl (by decide) rfl (Nat.le_of_ble_eq_true rfl) ⟨Nat.zero_le _, Nat.zero_le _⟩ dX10_appeal_149 (fun v_28 M_26 H locs hN hw => ?_)
                    obtain ⟨rfl, rfl⟩ := hN
                    exact ret hf dX10_appeal_152 hw
                  · have hf := x_iP hf q_25
                    refine lv_aload hx hb dX10_appeal_137 (lv_at hl 1 rfl) ?_
                    refine lv_iload_n hx hb dX10_appeal_139 rfl (lv_at hl 4 rfl) ?_
                    obtain ⟨tv_31, tM_29, c_30, hf⟩ := x_bE hf
                    refine x_vI C hw hl.1 [.int a3] [] (mX2_appealDays l g h_17 c_30) lk_X10_286 h_17 (by decide) rfl (by decide) rfl (Nat.le_of_ble_eq_true rfl) ⟨Nat.zero_le _, Nat.zero_le _⟩ dX10_appeal_140 (fun v_31 M_29 H locs hN hw => ?_)
                    obtain ⟨rfl, rfl⟩ := hN
                    refine lv_goto (tgt := 152) hx hb dX10_appeal_143 (by decide) ?_
                    exact ret hf dX10_appeal_152 hw
                · have hf := x_iN hf q_24
                  refine lv_ldc hx hb hown (hB _ mk_X10_91) dX10_appeal_130 ?_
                  exact ret hf dX10_appeal_132 hw
          refine lv_if_ne (tgt := 83) hx hb dX10_appeal_72 (by decide) (fun q_32 => ?_) (fun q_32 => ?_)
          · have hf := x_iN hf q_32
            refine lv_aload hx hb dX10_appeal_83 (lv_at hl 0 rfl) ?_
            refine fg_X10_283 C hw h_17 dX10_appeal_85 ?_
            exact hk88_19 _ _ _ _ _ (lv_sub hl [0, 1, 3, 4] rfl) hw hf
          · have hf := x_iP hf q_32
            refine lv_aload hx hb dX10_appeal_75 (lv_at hl 0 rfl) ?_
            refine fg_X10_280 C hw h_17 dX10_appeal_77 ?_
            refine lv_goto (tgt := 88) hx hb dX10_appeal_80 (by decide) ?_
            exact hk88_19 _ _ _ _ _ (lv_sub hl [0, 1, 3, 4] rfl) hw hf
        · have hf := x_iP hf q_15
          refine lv_ldc hx hb hown (hB _ mk_X10_61) dX10_appeal_57 ?_
          exact ret hf dX10_appeal_59 hw
      refine lv_if_ne (tgt := 41) hx hb dX10_appeal_26 (by decide) (fun q_33 => ?_) (fun q_33 => ?_)
      · have hf := x_iN hf q_33
        refine lv_aload_n hx hb dX10_appeal_41 rfl (lv_at hl 0 rfl) ?_
        refine fg_X10_10 (k2 := 1) C hw ic0_0 rfl dX10_appeal_42 ?_
        refine fg_X10_128 (k2 := 23) C hw ic0_1 rfl dX10_appeal_45 ?_
        refine lv_bipush (v := (7 : Int32)) hx hb dX10_appeal_48 (by decide) ?_
        refine x_ald (j := 7) C hw ic0_23 (x_inl rfl) rfl dX10_appeal_50 ?_
        exact hk51_10 _ _ _ _ _ (lv_sub hl [0, 1, 2, 3] rfl) hw hf
      · have hf := x_iP hf q_33
        refine lv_aload_n hx hb dX10_appeal_29 rfl (lv_at hl 0 rfl) ?_
        refine fg_X10_10 (k2 := 1) C hw ic0_0 rfl dX10_appeal_30 ?_
        refine fg_X10_128 (k2 := 23) C hw ic0_1 rfl dX10_appeal_33 ?_
        refine lv_iconst (v := (3 : Int32)) hx hb dX10_appeal_36 (by decide) ?_
        refine x_ald (j := 3) C hw ic0_23 (x_inl rfl) rfl dX10_appeal_37 ?_
        refine lv_goto (tgt := 51) hx hb dX10_appeal_38 (by decide) ?_
        exact hk51_10 _ _ _ _ _ (lv_sub hl [0, 1, 2, 3] rfl) hw hf
    · have hf := x_iP hf q_8
      refine lv_ldc hx hb hown (hB _ mk_X10_61) dX10_appeal_20 ?_
      exact ret hf dX10_appeal_22 hw
noncomputable def fX10_reopen (M : xM) (a1 : Int32) : Option (Int32 × xM) := x_b (fX8_hasJudgment M a1) fun v_3 M_1 => if v_3 = 0 then (some ((-1000000001 : Int32), M_1)) else (x_g a1 16 (x_b (fX8_hasLaw M_1) fun v_9 M_7 => if v_9 = 0 then (some ((-1000000002 : Int32), M_7)) else (if (M_7 (169 + a1.toNatClampNeg) 5) = (3 : Int32) then (some ((-1000000002 : Int32), M_7)) else (if ((M_7 1 0) - (M_7 (169 + a1.toNatClampNeg) 1)) ≤ (M_7 23 9) then (x_b (fX8_sumFor M_7 (M_7 (169 + a1.toNatClampNeg) 0) (M_7 (169 + a1.toNatClampNeg) 1) (M_7 1 0)) fun v_16 M_14 => x_l (x_up M_14 (169 + a1.toNatClampNeg) 3 v_16) fun M_17 => some ((M_17 (169 + a1.toNatClampNeg) 3), M_17)) else (some ((-1000000002 : Int32), M_7))))))
set_option maxRecDepth 100000 in
set_option maxHeartbeats 4000000 in
theorem mX10_reopen (l : Launch) (g : xG) {a1 : Int32} {r : Int32} {M' : xM}  {M : xM} (hf : fX10_reopen M a1 = some (r, M')) : x_cI l g 0 yX10_reopen cX10_reopen 3 .int 5 122 [.ref (g.2.2.1 0), .int a1] M (fun v N => v = r ∧ N = M') := by
  refine x_stI RX10 (by decide) rfl (Nat.le_of_ble_eq_true rfl) ?_
  intro p e s m args below meth c Q ls C hw ret hl
  obtain ⟨hx, hb, hml, hown, hB, -⟩ := id C
  have hl : lv_has ls 3 [(0, .ref (g.2.2.1 0)), (1, .int a1)] := hl
  unfold fX10_reopen at hf
  refine lv_aload_n hx hb dX10_reopen_0 rfl (lv_at hl 0 rfl) ?_
  refine fg_X10_10 (k2 := 1) C hw ic0_0 rfl dX10_reopen_1 ?_
  refine lv_iload_n hx hb dX10_reopen_4 rfl (lv_at hl 1 rfl) ?_
  obtain ⟨tv_3, tM_1, c_2, hf⟩ := x_bE hf
  refine x_vI C hw hl.1 [.int a1] [] (mX8_hasJudgment l g c_2) lk_X10_248 ic0_1 (by decide) rfl (by decide) rfl (Nat.le_of_ble_eq_true rfl) ⟨Nat.zero_le _, Nat.zero_le _⟩ dX10_reopen_5 (fun v_3 M_1 H locs hN hw => ?_)
  obtain ⟨rfl, rfl⟩ := hN
  refine lv_if_ne (tgt := 14) hx hb dX10_reopen_8 (by decide) (fun q_4 => ?_) (fun q_4 => ?_)
  · have hf := x_iN hf q_4
    refine lv_aload_n hx hb dX10_reopen_14 rfl (lv_at hl 0 rfl) ?_
    refine fg_X10_10 (k2 := 1) C hw ic0_0 rfl dX10_reopen_15 ?_
    refine fg_X10_230 (k2 := 22) C hw ic0_1 rfl dX10_reopen_18 ?_
    refine lv_iload_n hx hb dX10_reopen_21 rfl (lv_at hl 1 rfl) ?_
    obtain ⟨q_5, hf⟩ := x_gE hf
    refine x_rld (t := 4) (k2 := (169 + a1.toNatClampNeg)) C hw ic0_22 (by decide) rfl q_5 (rr0_22 _) dX10_reopen_22 ?_
    have h_6 : x_is 0 (169 + a1.toNatClampNeg) 2 := (rr0_22 a1.toNatClampNeg) ▸ x_ta ic0_22 (by decide) (x_ilt q_5)
    refine lv_astore_n (lv' := [(2, .ref (g.2.2.1 (169 + a1.toNatClampNeg))), (0, .ref (g.2.2.1 0)), (1, .int a1)]) hx hb dX10_reopen_23 rfl hl (by decide) rfl (fun ls hl => ?_)
    refine lv_aload_n hx hb dX10_reopen_24 rfl (lv_at hl 1 rfl) ?_
    refine fg_X10_10 (k2 := 1) C hw ic0_0 rfl dX10_reopen_25 ?_
    obtain ⟨tv_9, tM_7, c_8, hf⟩ := x_bE hf
    refine x_vI C hw hl.1 [] [] (mX8_hasLaw l g c_8) lk_X10_205 ic0_1 (by decide) rfl (by decide) rfl (Nat.le_of_ble_eq_true rfl) ⟨Nat.zero_le _, Nat.zero_le _⟩ dX10_reopen_28 (fun v_9 M_7 H locs hN hw => ?_)
    obtain ⟨rfl, rfl⟩ := hN
    refine lv_if_eq (tgt := 67) hx hb dX10_reopen_31 (by decide) (fun q_10 => ?_) (fun q_10 => ?_)
    · have hf := x_iP hf q_10
      refine lv_ldc hx hb hown (hB _ mk_X10_91) dX10_reopen_67 ?_
      exact ret hf dX10_reopen_69 hw
    · have hf := x_iN hf q_10
      refine lv_aload_n hx hb dX10_reopen_34 rfl (lv_at hl 0 rfl) ?_
      refine fg_X10_265 C hw h_6 dX10_reopen_35 ?_
      refine lv_iconst (v := (3 : Int32)) hx hb dX10_reopen_38 (by decide) ?_
      refine lv_icmp_eq (tgt := 67) hx hb dX10_reopen_39 (by decide) (fun q_11 => ?_) (fun q_11 => ?_)
      · have hf := x_iP hf q_11
        refine lv_ldc hx hb hown (hB _ mk_X10_91) dX10_reopen_67 ?_
        exact ret hf dX10_reopen_69 hw
      · have hf := x_iN hf q_11
        refine lv_aload_n hx hb dX10_reopen_42 rfl (lv_at hl 1 rfl) ?_
        refine fg_X10_10 (k2 := 1) C hw ic0_0 rfl dX10_reopen_43 ?_
        refine fg_X10_108 C hw ic0_1 dX10_reopen_46 ?_
        refine lv_aload_n hx hb dX10_reopen_49 rfl (lv_at hl 0 rfl) ?_
        refine fg_X10_252 C hw h_6 dX10_reopen_50 ?_
        refine lv_isub hx hb dX10_reopen_53 ?_
        refine lv_aload_n hx hb dX10_reopen_54 rfl (lv_at hl 1 rfl) ?_
        refine fg_X10_10 (k2 := 1) C hw ic0_0 rfl dX10_reopen_55 ?_
        refine fg_X10_128 (k2 := 23) C hw ic0_1 rfl dX10_reopen_58 ?_
        refine lv_bipush (v := (9 : Int32)) hx hb dX10_reopen_61 (by decide) ?_
        refine x_ald (j := 9) C hw ic0_23 (x_inl rfl) rfl dX10_reopen_63 ?_
        refine lv_icmp_le (tgt := 70) hx hb dX10_reopen_64 (by decide) (fun q_13 => ?_) (fun q_13 => ?_)
        · have hf := x_iP hf q_13
          refine lv_aload_n hx hb dX10_reopen_70 rfl (lv_at hl 0 rfl) ?_
          refine lv_aload_n hx hb dX10_reopen_71 rfl (lv_at hl 1 rfl) ?_
          refine fg_X10_10 (k2 := 1) C hw ic0_0 rfl dX10_reopen_72 ?_
          refine lv_aload_n hx hb dX10_reopen_75 rfl (lv_at hl 0 rfl) ?_
          refine fg_X10_251 C hw h_6 dX10_reopen_76 ?_
          refine lv_aload_n hx hb dX10_reopen_79 rfl (lv_at hl 0 rfl) ?_
          refine fg_X10_252 C hw h_6 dX10_reopen_80 ?_
          refine lv_aload_n hx hb dX10_reopen_83 rfl (lv_at hl 1 rfl) ?_
          refine fg_X10_10 (k2 := 1) C hw ic0_0 rfl dX10_reopen_84 ?_
          refine fg_X10_108 C hw ic0_1 dX10_reopen_87 ?_
          obtain ⟨tv_16, tM_14, c_15, hf⟩ := x_bE hf
          refine x_vI C hw hl.1 [.int (M_7 (169 + a1.toNatClampNeg) 0), .int (M_7 (169 + a1.toNatClampNeg) 1), .int (M_7 1 0)] [.ref (g.2.2.1 (169 + a1.toNatClampNeg))] (mX8_sumFor l g c_15) lk_X10_211 ic0_1 (by decide) rfl (by decide) rfl (Nat.le_of_ble_eq_true rfl) ⟨Nat.zero_le _, Nat.zero_le _⟩ dX10_reopen_90 (fun v_16 M_14 H locs hN hw => ?_)
          obtain ⟨rfl, rfl⟩ := hN
          refine fp_X10_242 C hw h_6 dX10_reopen_93 (fun H locs hw => ?_)
          obtain ⟨M_17, eM_17⟩ : ∃ z, z = (x_up M_14 (169 + a1.toNatClampNeg) 3 v_16) := ⟨_, rfl⟩
          rw [← eM_17] at hw
          have hf := x_lE eM_17 hf
          refine lv_aload_n hx hb dX10_reopen_96 rfl (lv_at hl 0 rfl) ?_
          refine fg_X10_242 C hw h_6 dX10_reopen_97 ?_
          exact ret hf dX10_reopen_100 hw
        · have hf := x_iN hf q_13
          refine lv_ldc hx hb hown (hB _ mk_X10_91) dX10_reopen_67 ?_
          exact ret hf dX10_reopen_69 hw
  · have hf := x_iP hf q_4
    refine lv_ldc hx hb hown (hB _ mk_X10_61) dX10_reopen_11 ?_
    exact ret hf dX10_reopen_13 hw
noncomputable def fX10_pay (M : xM) (a1 : Int32) (a2 : Int32) : Option (Int32 × xM) := x_b (fX8_hasJudgment M a1) fun v_3 M_1 => if v_3 = 0 then (some ((-1000000001 : Int32), M_1)) else (x_b (fX10_isWithin M_1 a2 (1 : Int32) (9999999 : Int32)) fun v_7 M_5 => if v_7 = 0 then (some ((-1000000001 : Int32), M_5)) else (x_g a1 16 (if (M_5 (169 + a1.toNatClampNeg) 5) = (3 : Int32) then (some ((-1000000002 : Int32), M_5)) else (x_b (fX2_unpaidCoins M_5 (169 + a1.toNatClampNeg)) fun v_14 M_12 => x_l (if v_14 < a2 then v_14 else a2) fun x4_15 => x_l (x_up M_12 (169 + a1.toNatClampNeg) 4 ((M_12 (169 + a1.toNatClampNeg) 4) + x4_15)) fun M_16 => some ((a2 - x4_15), M_16)))))
set_option maxRecDepth 100000 in
set_option maxHeartbeats 4000000 in
theorem mX10_pay (l : Launch) (g : xG) {a1 : Int32} {a2 : Int32} {r : Int32} {M' : xM}  {M : xM} (hf : fX10_pay M a1 a2 = some (r, M')) : x_cI l g 0 yX10_pay cX10_pay 5 .int 2 43 [.ref (g.2.2.1 0), .int a1, .int a2] M (fun v N => v = r ∧ N = M') := by
  refine x_stI RX10 (by decide) rfl (Nat.le_of_ble_eq_true rfl) ?_
  intro p e s m args below meth c Q ls C hw ret hl
  obtain ⟨hx, hb, hml, hown, hB, -⟩ := id C
  have hl : lv_has ls 5 [(0, .ref (g.2.2.1 0)), (1, .int a1), (2, .int a2)] := hl
  unfold fX10_pay at hf
  refine lv_aload_n hx hb dX10_pay_0 rfl (lv_at hl 0 rfl) ?_
  refine fg_X10_10 (k2 := 1) C hw ic0_0 rfl dX10_pay_1 ?_
  refine lv_iload_n hx hb dX10_pay_4 rfl (lv_at hl 1 rfl) ?_
  obtain ⟨tv_3, tM_1, c_2, hf⟩ := x_bE hf
  refine x_vI C hw hl.1 [.int a1] [] (mX8_hasJudgment l g c_2) lk_X10_248 ic0_1 (by decide) rfl (by decide) rfl (Nat.le_of_ble_eq_true rfl) ⟨Nat.zero_le _, Nat.zero_le _⟩ dX10_pay_5 (fun v_3 M_1 H locs hN hw => ?_)
  obtain ⟨rfl, rfl⟩ := hN
  refine lv_if_eq (tgt := 22) hx hb dX10_pay_8 (by decide) (fun q_4 => ?_) (fun q_4 => ?_)
  · have hf := x_iP hf q_4
    refine lv_ldc hx hb hown (hB _ mk_X10_61) dX10_pay_22 ?_
    exact ret hf dX10_pay_24 hw
  · have hf := x_iN hf q_4
    refine lv_iload_n hx hb dX10_pay_11 rfl (lv_at hl 2 rfl) ?_
    refine lv_iconst (v := (1 : Int32)) hx hb dX10_pay_12 (by decide) ?_
    refine lv_ldcw hx hb hown (hB _ mk_X10_292) dX10_pay_13 ?_
    obtain ⟨tv_7, tM_5, c_6, hf⟩ := x_bE hf
    refine x_sI C hw hl.1 [.int a2, .int (1 : Int32), .int (9999999 : Int32)] [] (mX10_isWithin l g c_6) lk_X10_57 (by decide) rfl (Nat.le_of_ble_eq_true rfl) ⟨Nat.zero_le _, Nat.zero_le _⟩ dX10_pay_16 (fun v_7 M_5 H locs hN hw => ?_)
    obtain ⟨rfl, rfl⟩ := hN
    refine lv_if_ne (tgt := 25) hx hb dX10_pay_19 (by decide) (fun q_8 => ?_) (fun q_8 => ?_)
    · have hf := x_iN hf q_8
      refine lv_aload_n hx hb dX10_pay_25 rfl (lv_at hl 0 rfl) ?_
      refine fg_X10_10 (k2 := 1) C hw ic0_0 rfl dX10_pay_26 ?_
      refine fg_X10_230 (k2 := 22) C hw ic0_1 rfl dX10_pay_29 ?_
      refine lv_iload_n hx hb dX10_pay_32 rfl (lv_at hl 1 rfl) ?_
      obtain ⟨q_9, hf⟩ := x_gE hf
      refine x_rld (t := 4) (k2 := (169 + a1.toNatClampNeg)) C hw ic0_22 (by decide) rfl q_9 (rr0_22 _) dX10_pay_33 ?_
      have h_10 : x_is 0 (169 + a1.toNatClampNeg) 2 := (rr0_22 a1.toNatClampNeg) ▸ x_ta ic0_22 (by decide) (x_ilt q_9)
      refine lv_astore_n (lv' := [(3, .ref (g.2.2.1 (169 + a1.toNatClampNeg))), (0, .ref (g.2.2.1 0)), (1, .int a1), (2, .int a2)]) hx hb dX10_pay_34 rfl hl (by decide) rfl (fun ls hl => ?_)
      refine lv_aload_n hx hb dX10_pay_35 rfl (lv_at hl 0 rfl) ?_
      refine fg_X10_265 C hw h_10 dX10_pay_36 ?_
      refine lv_iconst (v := (3 : Int32)) hx hb dX10_pay_39 (by decide) ?_
      refine lv_icmp_ne (tgt := 46) hx hb dX10_pay_40 (by decide) (fun q_11 => ?_) (fun q_11 => ?_)
      · have hf := x_iN hf q_11
        refine lv_iload_n hx hb dX10_pay_46 rfl (lv_at hl 3 rfl) ?_
        refine lv_aload_n hx hb dX10_pay_47 rfl (lv_at hl 0 rfl) ?_
        obtain ⟨tv_14, tM_12, c_13, hf⟩ := x_bE hf
        refine x_vI C hw hl.1 [] [.int a2] (mX2_unpaidCoins l g h_10 c_13) lk_X10_259 h_10 (by decide) rfl (by decide) rfl (Nat.le_of_ble_eq_true rfl) ⟨Nat.zero_le _, Nat.zero_le _⟩ dX10_pay_48 (fun v_14 M_12 H locs hN hw => ?_)
        obtain ⟨rfl, rfl⟩ := hN
        refine mm_X10_224 C hl.1 (Nat.le_of_ble_eq_true rfl) (Nat.le_of_ble_eq_true rfl) ⟨Nat.zero_le _, Nat.zero_le _⟩ dX10_pay_51 ?_
        refine lv_topi (fun x4_15 ex4_15 => ?_)
        have hf := x_lE ex4_15 hf
        refine lv_istore (lv' := [(4, .int x4_15), (3, .ref (g.2.2.1 (169 + a1.toNatClampNeg))), (0, .ref (g.2.2.1 0)), (1, .int a1), (2, .int a2)]) hx hb dX10_pay_54 hl (by decide) rfl (fun ls hl => ?_)
        refine lv_aload_n hx hb dX10_pay_56 rfl (lv_at hl 1 rfl) ?_
        refine lv_dup hx hb dX10_pay_57 rfl ?_
        refine fg_X10_256 C hw h_10 dX10_pay_58 ?_
        refine lv_iload hx hb dX10_pay_61 (lv_at hl 0 rfl) ?_
        refine lv_iadd hx hb dX10_pay_63 ?_
        refine fp_X10_256 C hw h_10 dX10_pay_64 (fun H locs hw => ?_)
        obtain ⟨M_16, eM_16⟩ : ∃ z, z = (x_up M_12 (169 + a1.toNatClampNeg) 4 ((M_12 (169 + a1.toNatClampNeg) 4) + x4_15)) := ⟨_, rfl⟩
        rw [← eM_16] at hw
        have hf := x_lE eM_16 hf
        refine lv_iload_n hx hb dX10_pay_67 rfl (lv_at hl 4 rfl) ?_
        refine lv_iload hx hb dX10_pay_68 (lv_at hl 0 rfl) ?_
        refine lv_isub hx hb dX10_pay_70 ?_
        exact ret hf dX10_pay_71 hw
      · have hf := x_iP hf q_11
        refine lv_ldc hx hb hown (hB _ mk_X10_91) dX10_pay_43 ?_
        exact ret hf dX10_pay_45 hw
    · have hf := x_iP hf q_8
      refine lv_ldc hx hb hown (hB _ mk_X10_61) dX10_pay_22 ?_
      exact ret hf dX10_pay_24 hw
noncomputable def fX10_back (M : xM) (a1 : Int32) : Option (Int32 × xM) := x_b (fX8_hasJudgment M a1) fun v_3 M_1 => if v_3 = 0 then (some ((-1000000001 : Int32), M_1)) else (x_g a1 16 (x_b (fX2_fine M_1 (169 + a1.toNatClampNeg)) fun v_9 M_7 => x_l ((M_1 (169 + a1.toNatClampNeg) 4) - v_9) fun x3_10 => if 0 < x3_10 then (x_l ((((x3_10.toInt64) * ((M_7 23 10).toInt64)) * (((M_7 1 0) - (M_7 (169 + a1.toNatClampNeg) 1)).toInt64)) / (36500 : Int64)) fun x4_14 => x_b (fX2_fine M_7 (169 + a1.toNatClampNeg)) fun v_17 M_15 => x_l (x_up M_15 (169 + a1.toNatClampNeg) 4 v_17) fun M_18 => some ((x3_10 + (x4_14.toInt32)), M_18)) else (some ((-1000000002 : Int32), M_7))))
set_option maxRecDepth 100000 in
set_option maxHeartbeats 4000000 in
theorem mX10_back (l : Launch) (g : xG) {a1 : Int32} {r : Int32} {M' : xM}  {M : xM} (hf : fX10_back M a1 = some (r, M')) : x_cI l g 0 yX10_back cX10_back 6 .int 2 43 [.ref (g.2.2.1 0), .int a1] M (fun v N => v = r ∧ N = M') := by
  refine x_stI RX10 (by decide) rfl (Nat.le_of_ble_eq_true rfl) ?_
  intro p e s m args below meth c Q ls C hw ret hl
  obtain ⟨hx, hb, hml, hown, hB, -⟩ := id C
  have hl : lv_has ls 6 [(0, .ref (g.2.2.1 0)), (1, .int a1)] := hl
  unfold fX10_back at hf
  refine lv_aload_n hx hb dX10_back_0 rfl (lv_at hl 0 rfl) ?_
  refine fg_X10_10 (k2 := 1) C hw ic0_0 rfl dX10_back_1 ?_
  refine lv_iload_n hx hb dX10_back_4 rfl (lv_at hl 1 rfl) ?_
  obtain ⟨tv_3, tM_1, c_2, hf⟩ := x_bE hf
  refine x_vI C hw hl.1 [.int a1] [] (mX8_hasJudgment l g c_2) lk_X10_248 ic0_1 (by decide) rfl (by decide) rfl (Nat.le_of_ble_eq_true rfl) ⟨Nat.zero_le _, Nat.zero_le _⟩ dX10_back_5 (fun v_3 M_1 H locs hN hw => ?_)
  obtain ⟨rfl, rfl⟩ := hN
  refine lv_if_ne (tgt := 14) hx hb dX10_back_8 (by decide) (fun q_4 => ?_) (fun q_4 => ?_)
  · have hf := x_iN hf q_4
    refine lv_aload_n hx hb dX10_back_14 rfl (lv_at hl 0 rfl) ?_
    refine fg_X10_10 (k2 := 1) C hw ic0_0 rfl dX10_back_15 ?_
    refine fg_X10_230 (k2 := 22) C hw ic0_1 rfl dX10_back_18 ?_
    refine lv_iload_n hx hb dX10_back_21 rfl (lv_at hl 1 rfl) ?_
    obtain ⟨q_5, hf⟩ := x_gE hf
    refine x_rld (t := 4) (k2 := (169 + a1.toNatClampNeg)) C hw ic0_22 (by decide) rfl q_5 (rr0_22 _) dX10_back_22 ?_
    have h_6 : x_is 0 (169 + a1.toNatClampNeg) 2 := (rr0_22 a1.toNatClampNeg) ▸ x_ta ic0_22 (by decide) (x_ilt q_5)
    refine lv_astore_n (lv' := [(2, .ref (g.2.2.1 (169 + a1.toNatClampNeg))), (0, .ref (g.2.2.1 0)), (1, .int a1)]) hx hb dX10_back_23 rfl hl (by decide) rfl (fun ls hl => ?_)
    refine lv_aload_n hx hb dX10_back_24 rfl (lv_at hl 0 rfl) ?_
    refine fg_X10_256 C hw h_6 dX10_back_25 ?_
    refine lv_aload_n hx hb dX10_back_28 rfl (lv_at hl 0 rfl) ?_
    obtain ⟨tv_9, tM_7, c_8, hf⟩ := x_bE hf
    refine x_vI C hw hl.1 [] [.int (M_1 (169 + a1.toNatClampNeg) 4)] (mX2_fine l g h_6 c_8) lk_X10_253 h_6 (by decide) rfl (by decide) rfl (Nat.le_of_ble_eq_true rfl) ⟨Nat.zero_le _, Nat.zero_le _⟩ dX10_back_29 (fun v_9 M_7 H locs hN hw => ?_)
    obtain ⟨rfl, rfl⟩ := hN
    refine lv_isub hx hb dX10_back_32 ?_
    refine lv_topi (fun x3_10 ex3_10 => ?_)
    have hf := x_lE ex3_10 hf
    refine lv_istore_n (lv' := [(3, .int x3_10), (2, .ref (g.2.2.1 (169 + a1.toNatClampNeg))), (0, .ref (g.2.2.1 0)), (1, .int a1)]) hx hb dX10_back_33 rfl hl (by decide) rfl (fun ls hl => ?_)
    refine lv_iload_n hx hb dX10_back_34 rfl (lv_at hl 0 rfl) ?_
    refine lv_if_gt (tgt := 41) hx hb dX10_back_35 (by decide) (fun q_11 => ?_) (fun q_11 => ?_)
    · have hf := x_iP hf q_11
      refine lv_iload_n hx hb dX10_back_41 rfl (lv_at hl 0 rfl) ?_
      refine lv_i2l hx hb dX10_back_42 rfl ?_
      refine lv_aload_n hx hb dX10_back_43 rfl (lv_at hl 2 rfl) ?_
      refine fg_X10_10 (k2 := 1) C hw ic0_0 rfl dX10_back_44 ?_
      refine fg_X10_128 (k2 := 23) C hw ic0_1 rfl dX10_back_47 ?_
      refine lv_bipush (v := (10 : Int32)) hx hb dX10_back_50 (by decide) ?_
      refine x_ald (j := 10) C hw ic0_23 (x_inl rfl) rfl dX10_back_52 ?_
      refine lv_i2l hx hb dX10_back_53 rfl ?_
      refine lv_lmul hx hb dX10_back_54 ?_
      refine lv_aload_n hx hb dX10_back_55 rfl (lv_at hl 2 rfl) ?_
      refine fg_X10_10 (k2 := 1) C hw ic0_0 rfl dX10_back_56 ?_
      refine fg_X10_108 C hw ic0_1 dX10_back_59 ?_
      refine lv_aload_n hx hb dX10_back_62 rfl (lv_at hl 1 rfl) ?_
      refine fg_X10_252 C hw h_6 dX10_back_63 ?_
      refine lv_isub hx hb dX10_back_66 ?_
      refine lv_i2l hx hb dX10_back_67 rfl ?_
      refine lv_lmul hx hb dX10_back_68 ?_
      refine lv_ldc2 hx hb hown (hB _ mkl_X10_293) dX10_back_69 ?_
      refine lv_ldiv hx hb dX10_back_72 (by decide) ?_
      refine lv_topl (fun x4_14 ex4_14 => ?_)
      have hf := x_lE ex4_14 hf
      refine lv_lstore (lv' := [(4, .long x4_14), (3, .int x3_10), (2, .ref (g.2.2.1 (169 + a1.toNatClampNeg))), (0, .ref (g.2.2.1 0)), (1, .int a1)]) hx hb dX10_back_73 hl (by decide) rfl (fun ls hl => ?_)
      refine lv_aload_n hx hb dX10_back_75 rfl (lv_at hl 2 rfl) ?_
      refine lv_aload_n hx hb dX10_back_76 rfl (lv_at hl 2 rfl) ?_
      obtain ⟨tv_17, tM_15, c_16, hf⟩ := x_bE hf
      refine x_vI C hw hl.1 [] [.ref (g.2.2.1 (169 + a1.toNatClampNeg))] (mX2_fine l g h_6 c_16) lk_X10_253 h_6 (by decide) rfl (by decide) rfl (Nat.le_of_ble_eq_true rfl) ⟨Nat.zero_le _, Nat.zero_le _⟩ dX10_back_77 (fun v_17 M_15 H locs hN hw => ?_)
      obtain ⟨rfl, rfl⟩ := hN
      refine fp_X10_256 C hw h_6 dX10_back_80 (fun H locs hw => ?_)
      obtain ⟨M_18, eM_18⟩ : ∃ z, z = (x_up M_15 (169 + a1.toNatClampNeg) 4 v_17) := ⟨_, rfl⟩
      rw [← eM_18] at hw
      have hf := x_lE eM_18 hf
      refine lv_iload_n hx hb dX10_back_83 rfl (lv_at hl 1 rfl) ?_
      refine lv_lload hx hb dX10_back_84 (lv_at hl 0 rfl) ?_
      refine lv_l2i hx hb dX10_back_86 rfl ?_
      refine lv_iadd hx hb dX10_back_87 ?_
      exact ret hf dX10_back_88 hw
    · have hf := x_iN hf q_11
      refine lv_ldc hx hb hown (hB _ mk_X10_91) dX10_back_38 ?_
      exact ret hf dX10_back_40 hw
  · have hf := x_iP hf q_4
    refine lv_ldc hx hb hown (hB _ mk_X10_61) dX10_back_11 ?_
    exact ret hf dX10_back_13 hw
noncomputable def fX10_step (M : xM) (a1 : Int32) : Option (Int32 × xM) := x_b (fX8_hasJudgment M a1) fun v_3 M_1 => if v_3 = 0 then (some ((-1000000001 : Int32), M_1)) else (x_g a1 16 (if (M_1 (169 + a1.toNatClampNeg) 5) = (3 : Int32) then (some ((-1000000002 : Int32), M_1)) else (x_b (fX2_unpaidCoins M_1 (169 + a1.toNatClampNeg)) fun v_10 M_8 => if v_10 = 0 then (some ((-1000000002 : Int32), M_8)) else (if (M_8 23 11) ≤ ((M_8 1 0) - (M_8 (169 + a1.toNatClampNeg) 6)) then (x_l (fun (M_15 : xM) => x_l (x_up M_15 (169 + a1.toNatClampNeg) 5 ((M_15 (169 + a1.toNatClampNeg) 5) + (1 : Int32))) fun M_16 => x_l (x_up M_16 (169 + a1.toNatClampNeg) 6 (M_16 1 0)) fun M_17 => x_l (fun (M_19 : xM) => some ((M_19 (169 + a1.toNatClampNeg) 5), M_19)) fun k134_18 => if (M_17 (169 + a1.toNatClampNeg) 5) = (3 : Int32) then (x_b (fX8_hoursFor M_17 (169 + a1.toNatClampNeg)) fun v_23 M_21 => x_l (x_up M_21 (169 + a1.toNatClampNeg) 7 v_23) fun M_24 => k134_18 M_24) else (k134_18 M_17)) fun k93_14 => if ((M_8 (169 + a1.toNatClampNeg) 5) + (1 : Int32)) = (3 : Int32) then (x_b (fX8_hasLaw M_8) fun v_28 M_26 => if v_28 = 0 then (some ((-1000000002 : Int32), M_26)) else (k93_14 M_26)) else (k93_14 M_8)) else (some ((-1000000002 : Int32), M_8))))))
set_option maxRecDepth 100000 in
set_option maxHeartbeats 4000000 in
theorem mX10_step (l : Launch) (g : xG) {a1 : Int32} {r : Int32} {M' : xM}  {M : xM} (hf : fX10_step M a1 = some (r, M')) : x_cI l g 0 yX10_step cX10_step 3 .int 4 89 [.ref (g.2.2.1 0), .int a1] M (fun v N => v = r ∧ N = M') := by
  refine x_stI RX10 (by decide) rfl (Nat.le_of_ble_eq_true rfl) ?_
  intro p e s m args below meth c Q ls C hw ret hl
  obtain ⟨hx, hb, hml, hown, hB, -⟩ := id C
  have hl : lv_has ls 3 [(0, .ref (g.2.2.1 0)), (1, .int a1)] := hl
  unfold fX10_step at hf
  refine lv_aload_n hx hb dX10_step_0 rfl (lv_at hl 0 rfl) ?_
  refine fg_X10_10 (k2 := 1) C hw ic0_0 rfl dX10_step_1 ?_
  refine lv_iload_n hx hb dX10_step_4 rfl (lv_at hl 1 rfl) ?_
  obtain ⟨tv_3, tM_1, c_2, hf⟩ := x_bE hf
  refine x_vI C hw hl.1 [.int a1] [] (mX8_hasJudgment l g c_2) lk_X10_248 ic0_1 (by decide) rfl (by decide) rfl (Nat.le_of_ble_eq_true rfl) ⟨Nat.zero_le _, Nat.zero_le _⟩ dX10_step_5 (fun v_3 M_1 H locs hN hw => ?_)
  obtain ⟨rfl, rfl⟩ := hN
  refine lv_if_ne (tgt := 14) hx hb dX10_step_8 (by decide) (fun q_4 => ?_) (fun q_4 => ?_)
  · have hf := x_iN hf q_4
    refine lv_aload_n hx hb dX10_step_14 rfl (lv_at hl 0 rfl) ?_
    refine fg_X10_10 (k2 := 1) C hw ic0_0 rfl dX10_step_15 ?_
    refine fg_X10_230 (k2 := 22) C hw ic0_1 rfl dX10_step_18 ?_
    refine lv_iload_n hx hb dX10_step_21 rfl (lv_at hl 1 rfl) ?_
    obtain ⟨q_5, hf⟩ := x_gE hf
    refine x_rld (t := 4) (k2 := (169 + a1.toNatClampNeg)) C hw ic0_22 (by decide) rfl q_5 (rr0_22 _) dX10_step_22 ?_
    have h_6 : x_is 0 (169 + a1.toNatClampNeg) 2 := (rr0_22 a1.toNatClampNeg) ▸ x_ta ic0_22 (by decide) (x_ilt q_5)
    refine lv_astore_n (lv' := [(2, .ref (g.2.2.1 (169 + a1.toNatClampNeg))), (0, .ref (g.2.2.1 0)), (1, .int a1)]) hx hb dX10_step_23 rfl hl (by decide) rfl (fun ls hl => ?_)
    refine lv_aload_n hx hb dX10_step_24 rfl (lv_at hl 0 rfl) ?_
    refine fg_X10_265 C hw h_6 dX10_step_25 ?_
    refine lv_iconst (v := (3 : Int32)) hx hb dX10_step_28 (by decide) ?_
    refine lv_icmp_eq (tgt := 39) hx hb dX10_step_29 (by decide) (fun q_7 => ?_) (fun q_7 => ?_)
    · have hf := x_iP hf q_7
      refine lv_ldc hx hb hown (hB _ mk_X10_91) dX10_step_39 ?_
      exact ret hf dX10_step_41 hw
    · have hf := x_iN hf q_7
      refine lv_aload_n hx hb dX10_step_32 rfl (lv_at hl 0 rfl) ?_
      obtain ⟨tv_10, tM_8, c_9, hf⟩ := x_bE hf
      refine x_vI C hw hl.1 [] [] (mX2_unpaidCoins l g h_6 c_9) lk_X10_259 h_6 (by decide) rfl (by decide) rfl (Nat.le_of_ble_eq_true rfl) ⟨Nat.zero_le _, Nat.zero_le _⟩ dX10_step_33 (fun v_10 M_8 H locs hN hw => ?_)
      obtain ⟨rfl, rfl⟩ := hN
      refine lv_if_ne (tgt := 42) hx hb dX10_step_36 (by decide) (fun q_11 => ?_) (fun q_11 => ?_)
      · have hf := x_iN hf q_11
        refine lv_aload_n hx hb dX10_step_42 rfl (lv_at hl 1 rfl) ?_
        refine fg_X10_10 (k2 := 1) C hw ic0_0 rfl dX10_step_43 ?_
        refine fg_X10_108 C hw ic0_1 dX10_step_46 ?_
        refine lv_aload_n hx hb dX10_step_49 rfl (lv_at hl 0 rfl) ?_
        refine fg_X10_295 C hw h_6 dX10_step_50 ?_
        refine lv_isub hx hb dX10_step_53 ?_
        refine lv_aload_n hx hb dX10_step_54 rfl (lv_at hl 1 rfl) ?_
        refine fg_X10_10 (k2 := 1) C hw ic0_0 rfl dX10_step_55 ?_
        refine fg_X10_128 (k2 := 23) C hw ic0_1 rfl dX10_step_58 ?_
        refine lv_bipush (v := (11 : Int32)) hx hb dX10_step_61 (by decide) ?_
        refine x_ald (j := 11) C hw ic0_23 (x_inl rfl) rfl dX10_step_63 ?_
        refine lv_icmp_ge (tgt := 70) hx hb dX10_step_64 (by decide) (fun q_13 => ?_) (fun q_13 => ?_)
        · have hf := x_iP hf q_13
          refine lv_aload_n hx hb dX10_step_70 rfl (lv_at hl 0 rfl) ?_
          refine fg_X10_265 C hw h_6 dX10_step_71 ?_
          refine lv_iconst (v := (1 : Int32)) hx hb dX10_step_74 (by decide) ?_
          refine lv_iadd hx hb dX10_step_75 ?_
          refine lv_iconst (v := (3 : Int32)) hx hb dX10_step_76 (by decide) ?_
          obtain ⟨k93_14, ek93_14, hf⟩ := x_jE hf
          have hk93_14 : ∀ (H : Heap) (locs : List Loc) (M_15 : xM)  (ls : Array Slot) , lv_has ls 3 [(2, .ref (g.2.2.1 (169 + a1.toNatClampNeg))), (0, .ref (g.2.2.1 0))] → x_w g 0 s H locs M_15 → k93_14 M_15 = some (r, M') → W p l e (x_rm 4 89) s m args below meth c H locs 0 0 Q (F0 m 93 ls []) := by
            intro H locs M_15  ls  hl hw hf
            rw [ek93_14] at hf
            refine lv_aload_n hx hb dX10_step_93 rfl (lv_at hl 0 rfl) ?_
            refine lv_dup hx hb dX10_step_94 rfl ?_
            refine fg_X10_265 C hw h_6 dX10_step_95 ?_
            refine lv_iconst (v := (1 : Int32)) hx hb dX10_step_98 (by decide) ?_
            refine lv_iadd hx hb dX10_step_99 ?_
            refine fp_X10_265 C hw h_6 dX10_step_100 (fun H locs hw => ?_)
            obtain ⟨M_16, eM_16⟩ : ∃ z, z = (x_up M_15 (169 + a1.toNatClampNeg) 5 ((M_15 (169 + a1.toNatClampNeg) 5) + (1 : Int32))) := ⟨_, rfl⟩
            rw [← eM_16] at hw
            have hf := x_lE eM_16 hf
            refine lv_aload_n hx hb dX10_step_103 rfl (lv_at hl 0 rfl) ?_
            refine lv_aload_n hx hb dX10_step_104 rfl (lv_at hl 1 rfl) ?_
            refine fg_X10_10 (k2 := 1) C hw ic0_0 rfl dX10_step_105 ?_
            refine fg_X10_108 C hw ic0_1 dX10_step_108 ?_
            refine fp_X10_295 C hw h_6 dX10_step_111 (fun H locs hw => ?_)
            obtain ⟨M_17, eM_17⟩ : ∃ z, z = (x_up M_16 (169 + a1.toNatClampNeg) 6 (M_16 1 0)) := ⟨_, rfl⟩
            rw [← eM_17] at hw
            have hf := x_lE eM_17 hf
            refine lv_aload_n hx hb dX10_step_114 rfl (lv_at hl 0 rfl) ?_
            refine fg_X10_265 C hw h_6 dX10_step_115 ?_
            refine lv_iconst (v := (3 : Int32)) hx hb dX10_step_118 (by decide) ?_
            obtain ⟨k134_18, ek134_18, hf⟩ := x_jE hf
            have hk134_18 : ∀ (H : Heap) (locs : List Loc) (M_19 : xM)  (ls : Array Slot) , lv_has ls 3 [(2, .ref (g.2.2.1 (169 + a1.toNatClampNeg)))] → x_w g 0 s H locs M_19 → k134_18 M_19 = some (r, M') → W p l e (x_rm 4 89) s m args below meth c H locs 0 0 Q (F0 m 134 ls []) := by
              intro H locs M_19  ls  hl hw hf
              rw [ek134_18] at hf
              refine lv_aload_n hx hb dX10_step_134 rfl (lv_at hl 0 rfl) ?_
              refine fg_X10_265 C hw h_6 dX10_step_135 ?_
              exact ret hf dX10_step_138 hw
            refine lv_icmp_ne (tgt := 134) hx hb dX10_step_119 (by decide) (fun q_20 => ?_) (fun q_20 => ?_)
            · have hf := x_iN hf q_20
              exact hk134_18 _ _ _ _ (lv_sub hl [0] rfl) hw hf
            · have hf := x_iP hf q_20
              refine lv_aload_n hx hb dX10_step_122 rfl (lv_at hl 0 rfl) ?_
              refine lv_aload_n hx hb dX10_step_123 rfl (lv_at hl 1 rfl) ?_
              refine fg_X10_10 (k2 := 1) C hw ic0_0 rfl dX10_step_124 ?_
              refine lv_aload_n hx hb dX10_step_127 rfl (lv_at hl 0 rfl) ?_
              obtain ⟨tv_23, tM_21, c_22, hf⟩ := x_bE hf
              refine x_vI C hw hl.1 [.ref (g.2.2.1 (169 + a1.toNatClampNeg))] [.ref (g.2.2.1 (169 + a1.toNatClampNeg))] (mX8_hoursFor l g h_6 c_22) lk_X10_298 ic0_1 (by decide) rfl (by decide) rfl (Nat.le_of_ble_eq_true rfl) ⟨Nat.zero_le _, Nat.zero_le _⟩ dX10_step_128 (fun v_23 M_21 H locs hN hw => ?_)
              obtain ⟨rfl, rfl⟩ := hN
              refine fp_X10_268 C hw h_6 dX10_step_131 (fun H locs hw => ?_)
              obtain ⟨M_24, eM_24⟩ : ∃ z, z = (x_up M_21 (169 + a1.toNatClampNeg) 7 v_23) := ⟨_, rfl⟩
              rw [← eM_24] at hw
              have hf := x_lE eM_24 hf
              exact hk134_18 _ _ _ _ (lv_sub hl [0] rfl) hw hf
          refine lv_icmp_ne (tgt := 93) hx hb dX10_step_77 (by decide) (fun q_25 => ?_) (fun q_25 => ?_)
          · have hf := x_iN hf q_25
            exact hk93_14 _ _ _ _ (lv_sub hl [0, 1] rfl) hw hf
          · have hf := x_iP hf q_25
            refine lv_aload_n hx hb dX10_step_80 rfl (lv_at hl 1 rfl) ?_
            refine fg_X10_10 (k2 := 1) C hw ic0_0 rfl dX10_step_81 ?_
            obtain ⟨tv_28, tM_26, c_27, hf⟩ := x_bE hf
            refine x_vI C hw hl.1 [] [] (mX8_hasLaw l g c_27) lk_X10_205 ic0_1 (by decide) rfl (by decide) rfl (Nat.le_of_ble_eq_true rfl) ⟨Nat.zero_le _, Nat.zero_le _⟩ dX10_step_84 (fun v_28 M_26 H locs hN hw => ?_)
            obtain ⟨rfl, rfl⟩ := hN
            refine lv_if_ne (tgt := 93) hx hb dX10_step_87 (by decide) (fun q_29 => ?_) (fun q_29 => ?_)
            · have hf := x_iN hf q_29
              exact hk93_14 _ _ _ _ (lv_sub hl [0, 1] rfl) hw hf
            · have hf := x_iP hf q_29
              refine lv_ldc hx hb hown (hB _ mk_X10_91) dX10_step_90 ?_
              exact ret hf dX10_step_92 hw
        · have hf := x_iN hf q_13
          refine lv_ldc hx hb hown (hB _ mk_X10_91) dX10_step_67 ?_
          exact ret hf dX10_step_69 hw
      · have hf := x_iP hf q_11
        refine lv_ldc hx hb hown (hB _ mk_X10_91) dX10_step_39 ?_
        exact ret hf dX10_step_41 hw
  · have hf := x_iP hf q_4
    refine lv_ldc hx hb hown (hB _ mk_X10_61) dX10_step_11 ?_
    exact ret hf dX10_step_13 hw
noncomputable def fX10_work (M : xM) (a1 : Int32) (a2 : Int32) : Option (Int32 × xM) := x_b (fX8_hasJudgment M a1) fun v_3 M_1 => if v_3 = 0 then (some ((-1000000001 : Int32), M_1)) else (x_b (fX10_isWithin M_1 a2 (1 : Int32) (9999 : Int32)) fun v_7 M_5 => if v_7 = 0 then (some ((-1000000001 : Int32), M_5)) else (x_g a1 16 (if (M_5 (169 + a1.toNatClampNeg) 5) = (3 : Int32) then (if a2 ≤ (M_5 (169 + a1.toNatClampNeg) 7) then (x_l (x_up M_5 (169 + a1.toNatClampNeg) 7 ((M_5 (169 + a1.toNatClampNeg) 7) - a2)) fun M_13 => some ((M_13 (169 + a1.toNatClampNeg) 7), M_13)) else (some ((-1000000002 : Int32), M_5))) else (some ((-1000000002 : Int32), M_5)))))
set_option maxRecDepth 100000 in
set_option maxHeartbeats 4000000 in
theorem mX10_work (l : Launch) (g : xG) {a1 : Int32} {a2 : Int32} {r : Int32} {M' : xM}  {M : xM} (hf : fX10_work M a1 a2 = some (r, M')) : x_cI l g 0 yX10_work cX10_work 4 .int 2 43 [.ref (g.2.2.1 0), .int a1, .int a2] M (fun v N => v = r ∧ N = M') := by
  refine x_stI RX10 (by decide) rfl (Nat.le_of_ble_eq_true rfl) ?_
  intro p e s m args below meth c Q ls C hw ret hl
  obtain ⟨hx, hb, hml, hown, hB, -⟩ := id C
  have hl : lv_has ls 4 [(0, .ref (g.2.2.1 0)), (1, .int a1), (2, .int a2)] := hl
  unfold fX10_work at hf
  refine lv_aload_n hx hb dX10_work_0 rfl (lv_at hl 0 rfl) ?_
  refine fg_X10_10 (k2 := 1) C hw ic0_0 rfl dX10_work_1 ?_
  refine lv_iload_n hx hb dX10_work_4 rfl (lv_at hl 1 rfl) ?_
  obtain ⟨tv_3, tM_1, c_2, hf⟩ := x_bE hf
  refine x_vI C hw hl.1 [.int a1] [] (mX8_hasJudgment l g c_2) lk_X10_248 ic0_1 (by decide) rfl (by decide) rfl (Nat.le_of_ble_eq_true rfl) ⟨Nat.zero_le _, Nat.zero_le _⟩ dX10_work_5 (fun v_3 M_1 H locs hN hw => ?_)
  obtain ⟨rfl, rfl⟩ := hN
  refine lv_if_eq (tgt := 22) hx hb dX10_work_8 (by decide) (fun q_4 => ?_) (fun q_4 => ?_)
  · have hf := x_iP hf q_4
    refine lv_ldc hx hb hown (hB _ mk_X10_61) dX10_work_22 ?_
    exact ret hf dX10_work_24 hw
  · have hf := x_iN hf q_4
    refine lv_iload_n hx hb dX10_work_11 rfl (lv_at hl 2 rfl) ?_
    refine lv_iconst (v := (1 : Int32)) hx hb dX10_work_12 (by decide) ?_
    refine lv_sipush (v := (9999 : Int32)) hx hb dX10_work_13 (by decide) ?_
    obtain ⟨tv_7, tM_5, c_6, hf⟩ := x_bE hf
    refine x_sI C hw hl.1 [.int a2, .int (1 : Int32), .int (9999 : Int32)] [] (mX10_isWithin l g c_6) lk_X10_57 (by decide) rfl (Nat.le_of_ble_eq_true rfl) ⟨Nat.zero_le _, Nat.zero_le _⟩ dX10_work_16 (fun v_7 M_5 H locs hN hw => ?_)
    obtain ⟨rfl, rfl⟩ := hN
    refine lv_if_ne (tgt := 25) hx hb dX10_work_19 (by decide) (fun q_8 => ?_) (fun q_8 => ?_)
    · have hf := x_iN hf q_8
      refine lv_aload_n hx hb dX10_work_25 rfl (lv_at hl 0 rfl) ?_
      refine fg_X10_10 (k2 := 1) C hw ic0_0 rfl dX10_work_26 ?_
      refine fg_X10_230 (k2 := 22) C hw ic0_1 rfl dX10_work_29 ?_
      refine lv_iload_n hx hb dX10_work_32 rfl (lv_at hl 1 rfl) ?_
      obtain ⟨q_9, hf⟩ := x_gE hf
      refine x_rld (t := 4) (k2 := (169 + a1.toNatClampNeg)) C hw ic0_22 (by decide) rfl q_9 (rr0_22 _) dX10_work_33 ?_
      have h_10 : x_is 0 (169 + a1.toNatClampNeg) 2 := (rr0_22 a1.toNatClampNeg) ▸ x_ta ic0_22 (by decide) (x_ilt q_9)
      refine lv_astore_n (lv' := [(3, .ref (g.2.2.1 (169 + a1.toNatClampNeg))), (0, .ref (g.2.2.1 0)), (1, .int a1), (2, .int a2)]) hx hb dX10_work_34 rfl hl (by decide) rfl (fun ls hl => ?_)
      refine lv_aload_n hx hb dX10_work_35 rfl (lv_at hl 0 rfl) ?_
      refine fg_X10_265 C hw h_10 dX10_work_36 ?_
      refine lv_iconst (v := (3 : Int32)) hx hb dX10_work_39 (by decide) ?_
      refine lv_icmp_ne (tgt := 51) hx hb dX10_work_40 (by decide) (fun q_11 => ?_) (fun q_11 => ?_)
      · have hf := x_iN hf q_11
        refine lv_ldc hx hb hown (hB _ mk_X10_91) dX10_work_51 ?_
        exact ret hf dX10_work_53 hw
      · have hf := x_iP hf q_11
        refine lv_iload_n hx hb dX10_work_43 rfl (lv_at hl 3 rfl) ?_
        refine lv_aload_n hx hb dX10_work_44 rfl (lv_at hl 0 rfl) ?_
        refine fg_X10_268 C hw h_10 dX10_work_45 ?_
        refine lv_icmp_le (tgt := 54) hx hb dX10_work_48 (by decide) (fun q_12 => ?_) (fun q_12 => ?_)
        · have hf := x_iP hf q_12
          refine lv_aload_n hx hb dX10_work_54 rfl (lv_at hl 0 rfl) ?_
          refine lv_dup hx hb dX10_work_55 rfl ?_
          refine fg_X10_268 C hw h_10 dX10_work_56 ?_
          refine lv_iload_n hx hb dX10_work_59 rfl (lv_at hl 3 rfl) ?_
          refine lv_isub hx hb dX10_work_60 ?_
          refine fp_X10_268 C hw h_10 dX10_work_61 (fun H locs hw => ?_)
          obtain ⟨M_13, eM_13⟩ : ∃ z, z = (x_up M_5 (169 + a1.toNatClampNeg) 7 ((M_5 (169 + a1.toNatClampNeg) 7) - a2)) := ⟨_, rfl⟩
          rw [← eM_13] at hw
          have hf := x_lE eM_13 hf
          refine lv_aload_n hx hb dX10_work_64 rfl (lv_at hl 0 rfl) ?_
          refine fg_X10_268 C hw h_10 dX10_work_65 ?_
          exact ret hf dX10_work_68 hw
        · have hf := x_iN hf q_12
          refine lv_ldc hx hb hown (hB _ mk_X10_91) dX10_work_51 ?_
          exact ret hf dX10_work_53 hw
    · have hf := x_iP hf q_8
      refine lv_ldc hx hb hown (hB _ mk_X10_61) dX10_work_22 ?_
      exact ret hf dX10_work_24 hw
noncomputable def fX10_level (M : xM) (a1 : Int32) : Option (Int32 × xM) := x_b (fX8_hasPerson M a1) fun v_3 M_1 => if v_3 = 0 then (some ((-1000000001 : Int32), M_1)) else (x_b (fX5_isFound M_1 a1) fun v_7 M_5 => if v_7 = 0 then (some ((-1000000002 : Int32), M_5)) else (some ((M_5 4 2), M_5)))
set_option maxRecDepth 100000 in
set_option maxHeartbeats 4000000 in
theorem mX10_level (l : Launch) (g : xG) {a1 : Int32} {r : Int32} {M' : xM}  {M : xM} (hf : fX10_level M a1 = some (r, M')) : x_cI l g 0 yX10_level cX10_level 2 .int 6 149 [.ref (g.2.2.1 0), .int a1] M (fun v N => v = r ∧ N = M') := by
  refine x_stI RX10 (by decide) rfl (Nat.le_of_ble_eq_true rfl) ?_
  intro p e s m args below meth c Q ls C hw ret hl
  obtain ⟨hx, hb, hml, hown, hB, -⟩ := id C
  have hl : lv_has ls 2 [(0, .ref (g.2.2.1 0)), (1, .int a1)] := hl
  unfold fX10_level at hf
  refine lv_aload_n hx hb dX10_level_0 rfl (lv_at hl 0 rfl) ?_
  refine fg_X10_10 (k2 := 1) C hw ic0_0 rfl dX10_level_1 ?_
  refine lv_iload_n hx hb dX10_level_4 rfl (lv_at hl 1 rfl) ?_
  obtain ⟨tv_3, tM_1, c_2, hf⟩ := x_bE hf
  refine x_vI C hw hl.1 [.int a1] [] (mX8_hasPerson l g c_2) lk_X10_76 ic0_1 (by decide) rfl (by decide) rfl (Nat.le_of_ble_eq_true rfl) ⟨Nat.zero_le _, Nat.zero_le _⟩ dX10_level_5 (fun v_3 M_1 H locs hN hw => ?_)
  obtain ⟨rfl, rfl⟩ := hN
  refine lv_if_ne (tgt := 14) hx hb dX10_level_8 (by decide) (fun q_4 => ?_) (fun q_4 => ?_)
  · have hf := x_iN hf q_4
    refine lv_aload_n hx hb dX10_level_14 rfl (lv_at hl 0 rfl) ?_
    refine fg_X10_33 (k2 := 4) C hw ic0_0 rfl dX10_level_15 ?_
    refine lv_aload_n hx hb dX10_level_18 rfl (lv_at hl 0 rfl) ?_
    refine fg_X10_10 (k2 := 1) C hw ic0_0 rfl dX10_level_19 ?_
    refine lv_iload_n hx hb dX10_level_22 rfl (lv_at hl 1 rfl) ?_
    obtain ⟨tv_7, tM_5, c_6, hf⟩ := x_bE hf
    refine x_vI C hw hl.1 [.ref (g.2.2.1 1), .int a1] [] (mX5_isFound l g c_6) lk_X10_302 ic0_4 (by decide) rfl (by decide) rfl (Nat.le_of_ble_eq_true rfl) ⟨Nat.zero_le _, Nat.zero_le _⟩ dX10_level_23 (fun v_7 M_5 H locs hN hw => ?_)
    obtain ⟨rfl, rfl⟩ := hN
    refine lv_if_eq (tgt := 39) hx hb dX10_level_26 (by decide) (fun q_8 => ?_) (fun q_8 => ?_)
    · have hf := x_iP hf q_8
      refine lv_ldc hx hb hown (hB _ mk_X10_91) dX10_level_39 ?_
      exact ret hf dX10_level_41 hw
    · have hf := x_iN hf q_8
      refine lv_aload_n hx hb dX10_level_29 rfl (lv_at hl 0 rfl) ?_
      refine fg_X10_33 (k2 := 4) C hw ic0_0 rfl dX10_level_30 ?_
      refine fg_X10_306 C hw ic0_4 dX10_level_33 ?_
      refine lv_goto (tgt := 41) hx hb dX10_level_36 (by decide) ?_
      exact ret hf dX10_level_41 hw
  · have hf := x_iP hf q_4
    refine lv_ldc hx hb hown (hB _ mk_X10_61) dX10_level_11 ?_
    exact ret hf dX10_level_13 hw
noncomputable def fX10_month (M : xM) (a1 : Int32) (a2 : Int32) : Option (Int32 × xM) := x_b (fX8_hasPerson M a1) fun v_3 M_1 => if v_3 = 0 then (some ((-1000000001 : Int32), M_1)) else (x_b (fX10_isWithin M_1 a2 (0 : Int32) (23 : Int32)) fun v_7 M_5 => if v_7 = 0 then (some ((-1000000001 : Int32), M_5)) else (x_b (fX5_isFound M_5 a1) fun v_11 M_9 => if v_11 = 0 then (some ((-1000000002 : Int32), M_9)) else (x_g a2 24 (some ((M_9 18 a2.toNatClampNeg), M_9)))))
set_option maxRecDepth 100000 in
set_option maxHeartbeats 4000000 in
theorem mX10_month (l : Launch) (g : xG) {a1 : Int32} {a2 : Int32} {r : Int32} {M' : xM}  {M : xM} (hf : fX10_month M a1 a2 = some (r, M')) : x_cI l g 0 yX10_month cX10_month 3 .int 6 149 [.ref (g.2.2.1 0), .int a1, .int a2] M (fun v N => v = r ∧ N = M') := by
  refine x_stI RX10 (by decide) rfl (Nat.le_of_ble_eq_true rfl) ?_
  intro p e s m args below meth c Q ls C hw ret hl
  obtain ⟨hx, hb, hml, hown, hB, -⟩ := id C
  have hl : lv_has ls 3 [(0, .ref (g.2.2.1 0)), (1, .int a1), (2, .int a2)] := hl
  unfold fX10_month at hf
  refine lv_aload_n hx hb dX10_month_0 rfl (lv_at hl 0 rfl) ?_
  refine fg_X10_10 (k2 := 1) C hw ic0_0 rfl dX10_month_1 ?_
  refine lv_iload_n hx hb dX10_month_4 rfl (lv_at hl 1 rfl) ?_
  obtain ⟨tv_3, tM_1, c_2, hf⟩ := x_bE hf
  refine x_vI C hw hl.1 [.int a1] [] (mX8_hasPerson l g c_2) lk_X10_76 ic0_1 (by decide) rfl (by decide) rfl (Nat.le_of_ble_eq_true rfl) ⟨Nat.zero_le _, Nat.zero_le _⟩ dX10_month_5 (fun v_3 M_1 H locs hN hw => ?_)
  obtain ⟨rfl, rfl⟩ := hN
  refine lv_if_eq (tgt := 21) hx hb dX10_month_8 (by decide) (fun q_4 => ?_) (fun q_4 => ?_)
  · have hf := x_iP hf q_4
    refine lv_ldc hx hb hown (hB _ mk_X10_61) dX10_month_21 ?_
    exact ret hf dX10_month_23 hw
  · have hf := x_iN hf q_4
    refine lv_iload_n hx hb dX10_month_11 rfl (lv_at hl 2 rfl) ?_
    refine lv_iconst (v := (0 : Int32)) hx hb dX10_month_12 (by decide) ?_
    refine lv_bipush (v := (23 : Int32)) hx hb dX10_month_13 (by decide) ?_
    obtain ⟨tv_7, tM_5, c_6, hf⟩ := x_bE hf
    refine x_sI C hw hl.1 [.int a2, .int (0 : Int32), .int (23 : Int32)] [] (mX10_isWithin l g c_6) lk_X10_57 (by decide) rfl (Nat.le_of_ble_eq_true rfl) ⟨Nat.zero_le _, Nat.zero_le _⟩ dX10_month_15 (fun v_7 M_5 H locs hN hw => ?_)
    obtain ⟨rfl, rfl⟩ := hN
    refine lv_if_ne (tgt := 24) hx hb dX10_month_18 (by decide) (fun q_8 => ?_) (fun q_8 => ?_)
    · have hf := x_iN hf q_8
      refine lv_aload_n hx hb dX10_month_24 rfl (lv_at hl 0 rfl) ?_
      refine fg_X10_33 (k2 := 4) C hw ic0_0 rfl dX10_month_25 ?_
      refine lv_aload_n hx hb dX10_month_28 rfl (lv_at hl 0 rfl) ?_
      refine fg_X10_10 (k2 := 1) C hw ic0_0 rfl dX10_month_29 ?_
      refine lv_iload_n hx hb dX10_month_32 rfl (lv_at hl 1 rfl) ?_
      obtain ⟨tv_11, tM_9, c_10, hf⟩ := x_bE hf
      refine x_vI C hw hl.1 [.ref (g.2.2.1 1), .int a1] [] (mX5_isFound l g c_10) lk_X10_302 ic0_4 (by decide) rfl (by decide) rfl (Nat.le_of_ble_eq_true rfl) ⟨Nat.zero_le _, Nat.zero_le _⟩ dX10_month_33 (fun v_11 M_9 H locs hN hw => ?_)
      obtain ⟨rfl, rfl⟩ := hN
      refine lv_if_eq (tgt := 51) hx hb dX10_month_36 (by decide) (fun q_12 => ?_) (fun q_12 => ?_)
      · have hf := x_iP hf q_12
        refine lv_ldc hx hb hown (hB _ mk_X10_91) dX10_month_51 ?_
        exact ret hf dX10_month_53 hw
      · have hf := x_iN hf q_12
        refine lv_aload_n hx hb dX10_month_39 rfl (lv_at hl 0 rfl) ?_
        refine fg_X10_33 (k2 := 4) C hw ic0_0 rfl dX10_month_40 ?_
        refine fg_X10_309 (k2 := 18) C hw ic0_4 rfl dX10_month_43 ?_
        refine lv_iload_n hx hb dX10_month_46 rfl (lv_at hl 2 rfl) ?_
        obtain ⟨q_13, hf⟩ := x_gE hf
        refine x_ald C hw ic0_18 q_13 rfl dX10_month_47 ?_
        refine lv_goto (tgt := 53) hx hb dX10_month_48 (by decide) ?_
        exact ret hf dX10_month_53 hw
    · have hf := x_iP hf q_8
      refine lv_ldc hx hb hown (hB _ mk_X10_61) dX10_month_21 ?_
      exact ret hf dX10_month_23 hw
noncomputable def fX10_room (M : xM) (a1 : Int32) (a2 : Int32) : Option (Int32 × xM) := x_b (fX8_hasPerson M a1) fun v_3 M_1 => if v_3 = 0 then (some ((-1000000001 : Int32), M_1)) else (x_b (fX10_isWithin M_1 a2 (0 : Int32) (23 : Int32)) fun v_7 M_5 => if v_7 = 0 then (some ((-1000000001 : Int32), M_5)) else (x_b (fX8_roomOf M_5 a1 a2) fun v_11 M_9 => some (v_11, M_9)))
set_option maxRecDepth 100000 in
set_option maxHeartbeats 4000000 in
theorem mX10_room (l : Launch) (g : xG) {a1 : Int32} {a2 : Int32} {r : Int32} {M' : xM}  {M : xM} (hf : fX10_room M a1 a2 = some (r, M')) : x_cI l g 0 yX10_room cX10_room 3 .int 5 124 [.ref (g.2.2.1 0), .int a1, .int a2] M (fun v N => v = r ∧ N = M') := by
  refine x_stI RX10 (by decide) rfl (Nat.le_of_ble_eq_true rfl) ?_
  intro p e s m args below meth c Q ls C hw ret hl
  obtain ⟨hx, hb, hml, hown, hB, -⟩ := id C
  have hl : lv_has ls 3 [(0, .ref (g.2.2.1 0)), (1, .int a1), (2, .int a2)] := hl
  unfold fX10_room at hf
  refine lv_aload_n hx hb dX10_room_0 rfl (lv_at hl 0 rfl) ?_
  refine fg_X10_10 (k2 := 1) C hw ic0_0 rfl dX10_room_1 ?_
  refine lv_iload_n hx hb dX10_room_4 rfl (lv_at hl 1 rfl) ?_
  obtain ⟨tv_3, tM_1, c_2, hf⟩ := x_bE hf
  refine x_vI C hw hl.1 [.int a1] [] (mX8_hasPerson l g c_2) lk_X10_76 ic0_1 (by decide) rfl (by decide) rfl (Nat.le_of_ble_eq_true rfl) ⟨Nat.zero_le _, Nat.zero_le _⟩ dX10_room_5 (fun v_3 M_1 H locs hN hw => ?_)
  obtain ⟨rfl, rfl⟩ := hN
  refine lv_if_eq (tgt := 21) hx hb dX10_room_8 (by decide) (fun q_4 => ?_) (fun q_4 => ?_)
  · have hf := x_iP hf q_4
    refine lv_ldc hx hb hown (hB _ mk_X10_61) dX10_room_21 ?_
    exact ret hf dX10_room_23 hw
  · have hf := x_iN hf q_4
    refine lv_iload_n hx hb dX10_room_11 rfl (lv_at hl 2 rfl) ?_
    refine lv_iconst (v := (0 : Int32)) hx hb dX10_room_12 (by decide) ?_
    refine lv_bipush (v := (23 : Int32)) hx hb dX10_room_13 (by decide) ?_
    obtain ⟨tv_7, tM_5, c_6, hf⟩ := x_bE hf
    refine x_sI C hw hl.1 [.int a2, .int (0 : Int32), .int (23 : Int32)] [] (mX10_isWithin l g c_6) lk_X10_57 (by decide) rfl (Nat.le_of_ble_eq_true rfl) ⟨Nat.zero_le _, Nat.zero_le _⟩ dX10_room_15 (fun v_7 M_5 H locs hN hw => ?_)
    obtain ⟨rfl, rfl⟩ := hN
    refine lv_if_ne (tgt := 24) hx hb dX10_room_18 (by decide) (fun q_8 => ?_) (fun q_8 => ?_)
    · have hf := x_iN hf q_8
      refine lv_aload_n hx hb dX10_room_24 rfl (lv_at hl 0 rfl) ?_
      refine fg_X10_10 (k2 := 1) C hw ic0_0 rfl dX10_room_25 ?_
      refine lv_iload_n hx hb dX10_room_28 rfl (lv_at hl 1 rfl) ?_
      refine lv_iload_n hx hb dX10_room_29 rfl (lv_at hl 2 rfl) ?_
      obtain ⟨tv_11, tM_9, c_10, hf⟩ := x_bE hf
      refine x_vI C hw hl.1 [.int a1, .int a2] [] (mX8_roomOf l g c_10) lk_X10_312 ic0_1 (by decide) rfl (by decide) rfl (Nat.le_of_ble_eq_true rfl) ⟨Nat.zero_le _, Nat.zero_le _⟩ dX10_room_30 (fun v_11 M_9 H locs hN hw => ?_)
      obtain ⟨rfl, rfl⟩ := hN
      exact ret hf dX10_room_33 hw
    · have hf := x_iP hf q_8
      refine lv_ldc hx hb hown (hB _ mk_X10_61) dX10_room_21 ?_
      exact ret hf dX10_room_23 hw
noncomputable def fX10_tell (M : xM) (a1 : Int32) : Option (Int32 × xM) := if (M 0 6) < (30 : Int32) then (x_g (M 0 6) 30 (x_l (x_up M 5 (M 0 6).toNatClampNeg a1) fun M_3 => x_l (x_up M_3 0 6 ((M_3 0 6) + (1 : Int32))) fun M_4 => some ((M_4 0 6), M_4))) else (some ((-1000000003 : Int32), M))
set_option maxRecDepth 100000 in
set_option maxHeartbeats 4000000 in
theorem mX10_tell (l : Launch) (g : xG) {a1 : Int32} {r : Int32} {M' : xM}  {M : xM} (hf : fX10_tell M a1 = some (r, M')) : x_cI l g 0 yX10_tell cX10_tell 2 .int 0 0 [.ref (g.2.2.1 0), .int a1] M (fun v N => v = r ∧ N = M') := by
  refine x_stI RX10 (by decide) rfl (Nat.le_of_ble_eq_true rfl) ?_
  intro p e s m args below meth c Q ls C hw ret hl
  obtain ⟨hx, hb, hml, hown, hB, -⟩ := id C
  have hl : lv_has ls 2 [(0, .ref (g.2.2.1 0)), (1, .int a1)] := hl
  unfold fX10_tell at hf
  refine lv_aload_n hx hb dX10_tell_0 rfl (lv_at hl 0 rfl) ?_
  refine fg_X10_41 C hw ic0_0 dX10_tell_1 ?_
  refine lv_bipush (v := (30 : Int32)) hx hb dX10_tell_4 (by decide) ?_
  refine lv_icmp_lt (tgt := 12) hx hb dX10_tell_6 (by decide) (fun q_1 => ?_) (fun q_1 => ?_)
  · have hf := x_iP hf q_1
    refine lv_aload_n hx hb dX10_tell_12 rfl (lv_at hl 0 rfl) ?_
    refine fg_X10_37 (k2 := 5) C hw ic0_0 rfl dX10_tell_13 ?_
    refine lv_aload_n hx hb dX10_tell_16 rfl (lv_at hl 0 rfl) ?_
    refine fg_X10_41 C hw ic0_0 dX10_tell_17 ?_
    refine lv_iload_n hx hb dX10_tell_20 rfl (lv_at hl 1 rfl) ?_
    obtain ⟨q_2, hf⟩ := x_gE hf
    refine x_ast C hw ic0_5 q_2 rfl dX10_tell_21 (fun H locs hw => ?_)
    obtain ⟨M_3, eM_3⟩ : ∃ z, z = (x_up M 5 (M 0 6).toNatClampNeg a1) := ⟨_, rfl⟩
    rw [← eM_3] at hw
    have hf := x_lE eM_3 hf
    refine lv_aload_n hx hb dX10_tell_22 rfl (lv_at hl 0 rfl) ?_
    refine lv_dup hx hb dX10_tell_23 rfl ?_
    refine fg_X10_41 C hw ic0_0 dX10_tell_24 ?_
    refine lv_iconst (v := (1 : Int32)) hx hb dX10_tell_27 (by decide) ?_
    refine lv_iadd hx hb dX10_tell_28 ?_
    refine fp_X10_41 C hw ic0_0 dX10_tell_29 (fun H locs hw => ?_)
    obtain ⟨M_4, eM_4⟩ : ∃ z, z = (x_up M_3 0 6 ((M_3 0 6) + (1 : Int32))) := ⟨_, rfl⟩
    rw [← eM_4] at hw
    have hf := x_lE eM_4 hf
    refine lv_aload_n hx hb dX10_tell_32 rfl (lv_at hl 0 rfl) ?_
    refine fg_X10_41 C hw ic0_0 dX10_tell_33 ?_
    exact ret hf dX10_tell_36 hw
  · have hf := x_iN hf q_1
    refine lv_ldc hx hb hown (hB _ mk_X10_65) dX10_tell_9 ?_
    exact ret hf dX10_tell_11 hw
noncomputable def fX10_check (M : xM) (a1 : Int32) : Option (Int32 × xM) := x_l (M 0 6) fun x2_1 => x_l (x_up M 0 6 (0 : Int32)) fun M_2 => x_b (fX8_hasPerson M_2 a1) fun v_5 M_3 => if v_5 = 0 then (some ((-1000000001 : Int32), M_3)) else (x_b (fX5_isFound M_3 a1) fun v_9 M_7 => if v_9 = 0 then (some ((-1000000002 : Int32), M_7)) else (x_b (fX5_firstWrong M_7 x2_1) fun v_13 M_11 => some (v_13, M_11)))
set_option maxRecDepth 100000 in
set_option maxHeartbeats 4000000 in
theorem mX10_check (l : Launch) (g : xG) {a1 : Int32} {r : Int32} {M' : xM}  {M : xM} (hf : fX10_check M a1 = some (r, M')) : x_cI l g 0 yX10_check cX10_check 3 .int 6 149 [.ref (g.2.2.1 0), .int a1] M (fun v N => v = r ∧ N = M') := by
  refine x_stI RX10 (by decide) rfl (Nat.le_of_ble_eq_true rfl) ?_
  intro p e s m args below meth c Q ls C hw ret hl
  obtain ⟨hx, hb, hml, hown, hB, -⟩ := id C
  have hl : lv_has ls 3 [(0, .ref (g.2.2.1 0)), (1, .int a1)] := hl
  unfold fX10_check at hf
  refine lv_aload_n hx hb dX10_check_0 rfl (lv_at hl 0 rfl) ?_
  refine fg_X10_41 C hw ic0_0 dX10_check_1 ?_
  refine lv_topi (fun x2_1 ex2_1 => ?_)
  have hf := x_lE ex2_1 hf
  refine lv_istore_n (lv' := [(2, .int x2_1), (0, .ref (g.2.2.1 0)), (1, .int a1)]) hx hb dX10_check_4 rfl hl (by decide) rfl (fun ls hl => ?_)
  refine lv_aload_n hx hb dX10_check_5 rfl (lv_at hl 1 rfl) ?_
  refine lv_iconst (v := (0 : Int32)) hx hb dX10_check_6 (by decide) ?_
  refine fp_X10_41 C hw ic0_0 dX10_check_7 (fun H locs hw => ?_)
  obtain ⟨M_2, eM_2⟩ : ∃ z, z = (x_up M 0 6 (0 : Int32)) := ⟨_, rfl⟩
  rw [← eM_2] at hw
  have hf := x_lE eM_2 hf
  refine lv_aload_n hx hb dX10_check_10 rfl (lv_at hl 1 rfl) ?_
  refine fg_X10_10 (k2 := 1) C hw ic0_0 rfl dX10_check_11 ?_
  refine lv_iload_n hx hb dX10_check_14 rfl (lv_at hl 2 rfl) ?_
  obtain ⟨tv_5, tM_3, c_4, hf⟩ := x_bE hf
  refine x_vI C hw hl.1 [.int a1] [] (mX8_hasPerson l g c_4) lk_X10_76 ic0_1 (by decide) rfl (by decide) rfl (Nat.le_of_ble_eq_true rfl) ⟨Nat.zero_le _, Nat.zero_le _⟩ dX10_check_15 (fun v_5 M_3 H locs hN hw => ?_)
  obtain ⟨rfl, rfl⟩ := hN
  refine lv_if_ne (tgt := 24) hx hb dX10_check_18 (by decide) (fun q_6 => ?_) (fun q_6 => ?_)
  · have hf := x_iN hf q_6
    refine lv_aload_n hx hb dX10_check_24 rfl (lv_at hl 1 rfl) ?_
    refine fg_X10_33 (k2 := 4) C hw ic0_0 rfl dX10_check_25 ?_
    refine lv_aload_n hx hb dX10_check_28 rfl (lv_at hl 1 rfl) ?_
    refine fg_X10_10 (k2 := 1) C hw ic0_0 rfl dX10_check_29 ?_
    refine lv_iload_n hx hb dX10_check_32 rfl (lv_at hl 2 rfl) ?_
    obtain ⟨tv_9, tM_7, c_8, hf⟩ := x_bE hf
    refine x_vI C hw hl.1 [.ref (g.2.2.1 1), .int a1] [] (mX5_isFound l g c_8) lk_X10_302 ic0_4 (by decide) rfl (by decide) rfl (Nat.le_of_ble_eq_true rfl) ⟨Nat.zero_le _, Nat.zero_le _⟩ dX10_check_33 (fun v_9 M_7 H locs hN hw => ?_)
    obtain ⟨rfl, rfl⟩ := hN
    refine lv_if_eq (tgt := 54) hx hb dX10_check_36 (by decide) (fun q_10 => ?_) (fun q_10 => ?_)
    · have hf := x_iP hf q_10
      refine lv_ldc hx hb hown (hB _ mk_X10_91) dX10_check_54 ?_
      exact ret hf dX10_check_56 hw
    · have hf := x_iN hf q_10
      refine lv_aload_n hx hb dX10_check_39 rfl (lv_at hl 1 rfl) ?_
      refine fg_X10_33 (k2 := 4) C hw ic0_0 rfl dX10_check_40 ?_
      refine lv_aload_n hx hb dX10_check_43 rfl (lv_at hl 1 rfl) ?_
      refine fg_X10_37 (k2 := 5) C hw ic0_0 rfl dX10_check_44 ?_
      refine lv_iload_n hx hb dX10_check_47 rfl (lv_at hl 0 rfl) ?_
      obtain ⟨tv_13, tM_11, c_12, hf⟩ := x_bE hf
      refine x_vI C hw hl.1 [.ref (g.2.2.1 5), .int x2_1] [] (mX5_firstWrong l g c_12) lk_X10_315 ic0_4 (by decide) rfl (by decide) rfl (Nat.le_of_ble_eq_true rfl) ⟨Nat.zero_le _, Nat.zero_le _⟩ dX10_check_48 (fun v_13 M_11 H locs hN hw => ?_)
      obtain ⟨rfl, rfl⟩ := hN
      refine lv_goto (tgt := 56) hx hb dX10_check_51 (by decide) ?_
      exact ret hf dX10_check_56 hw
  · have hf := x_iP hf q_6
    refine lv_ldc hx hb hown (hB _ mk_X10_61) dX10_check_21 ?_
    exact ret hf dX10_check_23 hw
noncomputable def fX10_alike (M : xM) (a1 : Int32) (a2 : Int32) : Option (Int32 × xM) := x_b (fX8_hasJudgment M a1) fun v_3 M_1 => if v_3 = 0 then (some ((-1000000001 : Int32), M_1)) else (x_b (fX8_hasJudgment M_1 a2) fun v_7 M_5 => if v_7 = 0 then (some ((-1000000001 : Int32), M_5)) else (if a1 = a2 then (some ((-1000000001 : Int32), M_5)) else (x_b (fX8_areAlike M_5 a1 a2) fun v_12 M_10 => x_b (fX10_oneIf M_10 v_12) fun v_15 M_13 => some (v_15, M_13))))
set_option maxRecDepth 100000 in
set_option maxHeartbeats 4000000 in
theorem mX10_alike (l : Launch) (g : xG) {a1 : Int32} {a2 : Int32} {r : Int32} {M' : xM}  {M : xM} (hf : fX10_alike M a1 a2 = some (r, M')) : x_cI l g 0 yX10_alike cX10_alike 3 .int 3 69 [.ref (g.2.2.1 0), .int a1, .int a2] M (fun v N => v = r ∧ N = M') := by
  refine x_stI RX10 (by decide) rfl (Nat.le_of_ble_eq_true rfl) ?_
  intro p e s m args below meth c Q ls C hw ret hl
  obtain ⟨hx, hb, hml, hown, hB, -⟩ := id C
  have hl : lv_has ls 3 [(0, .ref (g.2.2.1 0)), (1, .int a1), (2, .int a2)] := hl
  unfold fX10_alike at hf
  refine lv_aload_n hx hb dX10_alike_0 rfl (lv_at hl 0 rfl) ?_
  refine fg_X10_10 (k2 := 1) C hw ic0_0 rfl dX10_alike_1 ?_
  refine lv_iload_n hx hb dX10_alike_4 rfl (lv_at hl 1 rfl) ?_
  obtain ⟨tv_3, tM_1, c_2, hf⟩ := x_bE hf
  refine x_vI C hw hl.1 [.int a1] [] (mX8_hasJudgment l g c_2) lk_X10_248 ic0_1 (by decide) rfl (by decide) rfl (Nat.le_of_ble_eq_true rfl) ⟨Nat.zero_le _, Nat.zero_le _⟩ dX10_alike_5 (fun v_3 M_1 H locs hN hw => ?_)
  obtain ⟨rfl, rfl⟩ := hN
  refine lv_if_eq (tgt := 27) hx hb dX10_alike_8 (by decide) (fun q_4 => ?_) (fun q_4 => ?_)
  · have hf := x_iP hf q_4
    refine lv_ldc hx hb hown (hB _ mk_X10_61) dX10_alike_27 ?_
    exact ret hf dX10_alike_29 hw
  · have hf := x_iN hf q_4
    refine lv_aload_n hx hb dX10_alike_11 rfl (lv_at hl 0 rfl) ?_
    refine fg_X10_10 (k2 := 1) C hw ic0_0 rfl dX10_alike_12 ?_
    refine lv_iload_n hx hb dX10_alike_15 rfl (lv_at hl 2 rfl) ?_
    obtain ⟨tv_7, tM_5, c_6, hf⟩ := x_bE hf
    refine x_vI C hw hl.1 [.int a2] [] (mX8_hasJudgment l g c_6) lk_X10_248 ic0_1 (by decide) rfl (by decide) rfl (Nat.le_of_ble_eq_true rfl) ⟨Nat.zero_le _, Nat.zero_le _⟩ dX10_alike_16 (fun v_7 M_5 H locs hN hw => ?_)
    obtain ⟨rfl, rfl⟩ := hN
    refine lv_if_eq (tgt := 27) hx hb dX10_alike_19 (by decide) (fun q_8 => ?_) (fun q_8 => ?_)
    · have hf := x_iP hf q_8
      refine lv_ldc hx hb hown (hB _ mk_X10_61) dX10_alike_27 ?_
      exact ret hf dX10_alike_29 hw
    · have hf := x_iN hf q_8
      refine lv_iload_n hx hb dX10_alike_22 rfl (lv_at hl 1 rfl) ?_
      refine lv_iload_n hx hb dX10_alike_23 rfl (lv_at hl 2 rfl) ?_
      refine lv_icmp_ne (tgt := 30) hx hb dX10_alike_24 (by decide) (fun q_9 => ?_) (fun q_9 => ?_)
      · have hf := x_iN hf q_9
        refine lv_aload_n hx hb dX10_alike_30 rfl (lv_at hl 0 rfl) ?_
        refine fg_X10_10 (k2 := 1) C hw ic0_0 rfl dX10_alike_31 ?_
        refine lv_iload_n hx hb dX10_alike_34 rfl (lv_at hl 1 rfl) ?_
        refine lv_iload_n hx hb dX10_alike_35 rfl (lv_at hl 2 rfl) ?_
        obtain ⟨tv_12, tM_10, c_11, hf⟩ := x_bE hf
        refine x_vI C hw hl.1 [.int a1, .int a2] [] (mX8_areAlike l g c_11) lk_X10_319 ic0_1 (by decide) rfl (by decide) rfl (Nat.le_of_ble_eq_true rfl) ⟨Nat.zero_le _, Nat.zero_le _⟩ dX10_alike_36 (fun v_12 M_10 H locs hN hw => ?_)
        obtain ⟨rfl, rfl⟩ := hN
        obtain ⟨tv_15, tM_13, c_14, hf⟩ := x_bE hf
        refine x_sI C hw hl.1 [.int v_12] [] (mX10_oneIf l g c_14) lk_X10_83 (by decide) rfl (Nat.le_of_ble_eq_true rfl) ⟨Nat.zero_le _, Nat.zero_le _⟩ dX10_alike_39 (fun v_15 M_13 H locs hN hw => ?_)
        obtain ⟨rfl, rfl⟩ := hN
        exact ret hf dX10_alike_42 hw
      · have hf := x_iP hf q_9
        refine lv_ldc hx hb hown (hB _ mk_X10_61) dX10_alike_27 ?_
        exact ret hf dX10_alike_29 hw
noncomputable def fX10_unlike_L23 (x3_3 : Int32) (k102_11 : xM → Int32 → Int32 → Option (Int32 × xM)) : Nat → xM → Int32 → Int32 → Int32 → Option (Int32 × xM)
  | 0, _, _, _, _ => none
  | n_18 + 1, M_17, x1_14, x2_15, x4_16 => if (M_17 1 4) ≤ x4_16 then (k102_11 M_17 x1_14 x2_15) else (x_g x3_3 16 (x_g x4_16 16 (x_l (if 0 ≤ ((M_17 (169 + x3_3.toNatClampNeg) 2) - (M_17 (169 + x4_16.toNatClampNeg) 2)) then ((M_17 (169 + x3_3.toNatClampNeg) 2) - (M_17 (169 + x4_16.toNatClampNeg) 2)) else 0 - ((M_17 (169 + x3_3.toNatClampNeg) 2) - (M_17 (169 + x4_16.toNatClampNeg) 2))) fun x5_25 => x_l (fun (M_29 : xM) (x1_26 : Int32) (x2_27 : Int32) => x_l (x4_16 + (1 : Int32)) fun x4_30 => fX10_unlike_L23 x3_3 k102_11 n_18 M_29 x1_26 x2_27 x4_30) fun k96_28 => if x5_25 ≤ x1_14 then (k96_28 M_17 x1_14 x2_15) else (x_b (fX8_areAlike M_17 x3_3 x4_16) fun v_34 M_32 => if v_34 = 0 then (k96_28 M_32 x1_14 x2_15) else (x_l (((100 : Int32) * x3_3) + x4_16) fun x2_36 => k96_28 M_32 x5_25 x2_36)))))
noncomputable def fX10_unlike_L7  : Nat → xM → Int32 → Int32 → Int32 → Option (Int32 × xM)
  | 0, _, _, _, _ => none
  | n_5 + 1, M_4, x1_1, x2_2, x3_3 => if (M_4 1 4) ≤ x3_3 then (some (x2_2, M_4)) else (x_l (x3_3 + (1 : Int32)) fun x4_8 => x_l (fun (M_12 : xM) (x1_9 : Int32) (x2_10 : Int32) => x_l (x3_3 + (1 : Int32)) fun x3_13 => fX10_unlike_L7 n_5 M_12 x1_9 x2_10 x3_13) fun k102_11 => fX10_unlike_L23 x3_3 k102_11 x_FU M_4 x1_1 x2_2 x4_8)
noncomputable def fX10_unlike (M : xM)  : Option (Int32 × xM) := fX10_unlike_L7 x_FU M (0 : Int32) (-1000000005 : Int32) (0 : Int32)
set_option maxRecDepth 100000 in
set_option maxHeartbeats 4000000 in
theorem mX10_unlike (l : Launch) (g : xG)  {r : Int32} {M' : xM}  {M : xM} (hf : fX10_unlike M  = some (r, M')) : x_cI l g 0 yX10_unlike cX10_unlike 6 .int 3 69 [.ref (g.2.2.1 0)] M (fun v N => v = r ∧ N = M') := by
  refine x_stI RX10 (by decide) rfl (Nat.le_of_ble_eq_true rfl) ?_
  intro p e s m args below meth c Q ls C hw ret hl
  obtain ⟨hx, hb, hml, hown, hB, -⟩ := id C
  have hl : lv_has ls 6 [(0, .ref (g.2.2.1 0))] := hl
  unfold fX10_unlike at hf
  refine lv_iconst (v := (0 : Int32)) hx hb dX10_unlike_0 (by decide) ?_
  refine lv_istore_n (lv' := [(1, .int (0 : Int32)), (0, .ref (g.2.2.1 0))]) hx hb dX10_unlike_1 rfl hl (by decide) rfl (fun ls hl => ?_)
  refine lv_ldc hx hb hown (hB _ mk_X10_169) dX10_unlike_2 ?_
  refine lv_istore_n (lv' := [(2, .int (-1000000005 : Int32)), (1, .int (0 : Int32)), (0, .ref (g.2.2.1 0))]) hx hb dX10_unlike_4 rfl hl (by decide) rfl (fun ls hl => ?_)
  refine lv_iconst (v := (0 : Int32)) hx hb dX10_unlike_5 (by decide) ?_
  refine lv_istore_n (lv' := [(3, .int (0 : Int32)), (2, .int (-1000000005 : Int32)), (1, .int (0 : Int32)), (0, .ref (g.2.2.1 0))]) hx hb dX10_unlike_6 rfl hl (by decide) rfl (fun ls hl => ?_)
  have hL_38 : ∀ (n_5 : Nat) (H : Heap) (locs : List Loc) (M_4 : xM) (x1_1 : Int32) (x2_2 : Int32) (x3_3 : Int32) (ls : Array Slot) , lv_has ls 6 [(0, .ref (g.2.2.1 0)), (1, .int x1_1), (2, .int x2_2), (3, .int x3_3)] → x_w g 0 s H locs M_4 → fX10_unlike_L7 n_5 M_4 x1_1 x2_2 x3_3 = some (r, M') → W p l e (x_rm 3 69) s m args below meth c H locs 0 0 Q (F0 m 7 ls []) := by
    intro n_5
    induction n_5 with
    | zero =>
      intro H locs M_4 x1_1 x2_2 x3_3 ls  hl hw hf
      rw [fX10_unlike_L7] at hf
      cases hf
    | succ n_5 ih_6 =>
      intro H locs M_4 x1_1 x2_2 x3_3 ls  hl hw hf
      rw [fX10_unlike_L7] at hf
      refine lv_iload_n hx hb dX10_unlike_7 rfl (lv_at hl 3 rfl) ?_
      refine lv_aload_n hx hb dX10_unlike_8 rfl (lv_at hl 0 rfl) ?_
      refine fg_X10_10 (k2 := 1) C hw ic0_0 rfl dX10_unlike_9 ?_
      refine fg_X10_217 C hw ic0_1 dX10_unlike_12 ?_
      refine lv_icmp_ge (tgt := 108) hx hb dX10_unlike_15 (by decide) (fun q_7 => ?_) (fun q_7 => ?_)
      · have hf := x_iP hf q_7
        refine lv_iload_n hx hb dX10_unlike_108 rfl (lv_at hl 2 rfl) ?_
        exact ret hf dX10_unlike_109 hw
      · have hf := x_iN hf q_7
        refine lv_iload_n hx hb dX10_unlike_18 rfl (lv_at hl 3 rfl) ?_
        refine lv_iconst (v := (1 : Int32)) hx hb dX10_unlike_19 (by decide) ?_
        refine lv_iadd hx hb dX10_unlike_20 ?_
        refine lv_topi (fun x4_8 ex4_8 => ?_)
        have hf := x_lE ex4_8 hf
        refine lv_istore (lv' := [(4, .int x4_8), (0, .ref (g.2.2.1 0)), (1, .int x1_1), (2, .int x2_2), (3, .int x3_3)]) hx hb dX10_unlike_21 hl (by decide) rfl (fun ls hl => ?_)
        obtain ⟨k102_11, ek102_11, hf⟩ := x_jE hf
        have hk102_11 : ∀ (H : Heap) (locs : List Loc) (M_12 : xM) (x1_9 : Int32) (x2_10 : Int32) (ls : Array Slot) , lv_has ls 6 [(0, .ref (g.2.2.1 0)), (3, .int x3_3), (1, .int x1_9), (2, .int x2_10)] → x_w g 0 s H locs M_12 → k102_11 M_12 x1_9 x2_10 = some (r, M') → W p l e (x_rm 3 69) s m args below meth c H locs 0 0 Q (F0 m 102 ls []) := by
          intro H locs M_12 x1_9 x2_10 ls  hl hw hf
          rw [ek102_11] at hf
          obtain ⟨x3_13, ex3_13⟩ : ∃ z : Int32, z = (x3_3 + (1 : Int32)) := ⟨_, rfl⟩
          have hf := x_lE ex3_13 hf
          refine lv_iinc (v := x3_13) (lv' := [(3, .int x3_13), (0, .ref (g.2.2.1 0)), (1, .int x1_9), (2, .int x2_10)]) hx hb dX10_unlike_102 hl (k := 1) rfl (by rw [ex3_13]; rfl) (by decide) rfl (fun ls hl => ?_)
          refine lv_goto (tgt := 7) hx hb dX10_unlike_105 (by decide) ?_
          exact ih_6 _ _ _ _ _ _ _ (lv_sub hl [1, 2, 3, 0] rfl) hw hf
        have hL_37 : ∀ (n_18 : Nat) (H : Heap) (locs : List Loc) (M_17 : xM) (x1_14 : Int32) (x2_15 : Int32) (x4_16 : Int32) (ls : Array Slot) , lv_has ls 6 [(0, .ref (g.2.2.1 0)), (3, .int x3_3), (1, .int x1_14), (2, .int x2_15), (4, .int x4_16)] → x_w g 0 s H locs M_17 → fX10_unlike_L23 x3_3 k102_11 n_18 M_17 x1_14 x2_15 x4_16 = some (r, M') → W p l e (x_rm 3 69) s m args below meth c H locs 0 0 Q (F0 m 23 ls []) := by
          intro n_18
          induction n_18 with
          | zero =>
            intro H locs M_17 x1_14 x2_15 x4_16 ls  hl hw hf
            rw [fX10_unlike_L23] at hf
            cases hf
          | succ n_18 ih_19 =>
            intro H locs M_17 x1_14 x2_15 x4_16 ls  hl hw hf
            rw [fX10_unlike_L23] at hf
            refine lv_iload hx hb dX10_unlike_23 (lv_at hl 4 rfl) ?_
            refine lv_aload_n hx hb dX10_unlike_25 rfl (lv_at hl 0 rfl) ?_
            refine fg_X10_10 (k2 := 1) C hw ic0_0 rfl dX10_unlike_26 ?_
            refine fg_X10_217 C hw ic0_1 dX10_unlike_29 ?_
            refine lv_icmp_ge (tgt := 102) hx hb dX10_unlike_32 (by decide) (fun q_20 => ?_) (fun q_20 => ?_)
            · have hf := x_iP hf q_20
              exact hk102_11 _ _ _ _ _ _ (lv_sub hl [0, 1, 2, 3] rfl) hw hf
            · have hf := x_iN hf q_20
              refine lv_aload_n hx hb dX10_unlike_35 rfl (lv_at hl 0 rfl) ?_
              refine fg_X10_10 (k2 := 1) C hw ic0_0 rfl dX10_unlike_36 ?_
              refine fg_X10_230 (k2 := 22) C hw ic0_1 rfl dX10_unlike_39 ?_
              refine lv_iload_n hx hb dX10_unlike_42 rfl (lv_at hl 1 rfl) ?_
              obtain ⟨q_21, hf⟩ := x_gE hf
              refine x_rld (t := 4) (k2 := (169 + x3_3.toNatClampNeg)) C hw ic0_22 (by decide) rfl q_21 (rr0_22 _) dX10_unlike_43 ?_
              have h_22 : x_is 0 (169 + x3_3.toNatClampNeg) 2 := (rr0_22 x3_3.toNatClampNeg) ▸ x_ta ic0_22 (by decide) (x_ilt q_21)
              refine fg_X10_239 C hw h_22 dX10_unlike_44 ?_
              refine lv_aload_n hx hb dX10_unlike_47 rfl (lv_at hl 0 rfl) ?_
              refine fg_X10_10 (k2 := 1) C hw ic0_0 rfl dX10_unlike_48 ?_
              refine fg_X10_230 (k2 := 22) C hw ic0_1 rfl dX10_unlike_51 ?_
              refine lv_iload hx hb dX10_unlike_54 (lv_at hl 4 rfl) ?_
              obtain ⟨q_23, hf⟩ := x_gE hf
              refine x_rld (t := 4) (k2 := (169 + x4_16.toNatClampNeg)) C hw ic0_22 (by decide) rfl q_23 (rr0_22 _) dX10_unlike_56 ?_
              have h_24 : x_is 0 (169 + x4_16.toNatClampNeg) 2 := (rr0_22 x4_16.toNatClampNeg) ▸ x_ta ic0_22 (by decide) (x_ilt q_23)
              refine fg_X10_239 C hw h_24 dX10_unlike_57 ?_
              refine lv_isub hx hb dX10_unlike_60 ?_
              refine mm_X10_323 C hl.1 (Nat.le_of_ble_eq_true rfl) (Nat.le_of_ble_eq_true rfl) ⟨Nat.zero_le _, Nat.zero_le _⟩ dX10_unlike_61 ?_
              refine lv_topi (fun x5_25 ex5_25 => ?_)
              have hf := x_lE ex5_25 hf
              refine lv_istore (lv' := [(5, .int x5_25), (0, .ref (g.2.2.1 0)), (3, .int x3_3), (1, .int x1_14), (2, .int x2_15), (4, .int x4_16)]) hx hb dX10_unlike_64 hl (by decide) rfl (fun ls hl => ?_)
              refine lv_iload hx hb dX10_unlike_66 (lv_at hl 0 rfl) ?_
              refine lv_iload_n hx hb dX10_unlike_68 rfl (lv_at hl 3 rfl) ?_
              obtain ⟨k96_28, ek96_28, hf⟩ := x_jE hf
              have hk96_28 : ∀ (H : Heap) (locs : List Loc) (M_29 : xM) (x1_26 : Int32) (x2_27 : Int32) (ls : Array Slot) , lv_has ls 6 [(0, .ref (g.2.2.1 0)), (3, .int x3_3), (4, .int x4_16), (1, .int x1_26), (2, .int x2_27)] → x_w g 0 s H locs M_29 → k96_28 M_29 x1_26 x2_27 = some (r, M') → W p l e (x_rm 3 69) s m args below meth c H locs 0 0 Q (F0 m 96 ls []) := by
                intro H locs M_29 x1_26 x2_27 ls  hl hw hf
                rw [ek96_28] at hf
                obtain ⟨x4_30, ex4_30⟩ : ∃ z : Int32, z = (x4_16 + (1 : Int32)) := ⟨_, rfl⟩
                have hf := x_lE ex4_30 hf
                refine lv_iinc (v := x4_30) (lv' := [(4, .int x4_30), (0, .ref (g.2.2.1 0)), (3, .int x3_3), (1, .int x1_26), (2, .int x2_27)]) hx hb dX10_unlike_96 hl (k := 2) rfl (by rw [ex4_30]; rfl) (by decide) rfl (fun ls hl => ?_)
                refine lv_goto (tgt := 23) hx hb dX10_unlike_99 (by decide) ?_
                exact ih_19 _ _ _ _ _ _ _ (lv_sub hl [1, 2, 3, 4, 0] rfl) hw hf
              refine lv_icmp_le (tgt := 96) hx hb dX10_unlike_69 (by decide) (fun q_31 => ?_) (fun q_31 => ?_)
              · have hf := x_iP hf q_31
                exact hk96_28 _ _ _ _ _ _ (lv_sub hl [1, 2, 5, 3, 4] rfl) hw hf
              · have hf := x_iN hf q_31
                refine lv_aload_n hx hb dX10_unlike_72 rfl (lv_at hl 1 rfl) ?_
                refine fg_X10_10 (k2 := 1) C hw ic0_0 rfl dX10_unlike_73 ?_
                refine lv_iload_n hx hb dX10_unlike_76 rfl (lv_at hl 2 rfl) ?_
                refine lv_iload hx hb dX10_unlike_77 (lv_at hl 5 rfl) ?_
                obtain ⟨tv_34, tM_32, c_33, hf⟩ := x_bE hf
                refine x_vI C hw hl.1 [.int x3_3, .int x4_16] [] (mX8_areAlike l g c_33) lk_X10_319 ic0_1 (by decide) rfl (by decide) rfl (Nat.le_of_ble_eq_true rfl) ⟨Nat.zero_le _, Nat.zero_le _⟩ dX10_unlike_79 (fun v_34 M_32 H locs hN hw => ?_)
                obtain ⟨rfl, rfl⟩ := hN
                refine lv_if_eq (tgt := 96) hx hb dX10_unlike_82 (by decide) (fun q_35 => ?_) (fun q_35 => ?_)
                · have hf := x_iP hf q_35
                  exact hk96_28 _ _ _ _ _ _ (lv_sub hl [1, 2, 5, 3, 4] rfl) hw hf
                · have hf := x_iN hf q_35
                  refine lv_iload hx hb dX10_unlike_85 (lv_at hl 0 rfl) ?_
                  refine lv_istore_n (lv' := [(1, .int x5_25), (5, .int x5_25), (0, .ref (g.2.2.1 0)), (3, .int x3_3), (2, .int x2_15), (4, .int x4_16)]) hx hb dX10_unlike_87 rfl hl (by decide) rfl (fun ls hl => ?_)
                  refine lv_bipush (v := (100 : Int32)) hx hb dX10_unlike_88 (by decide) ?_
                  refine lv_iload_n hx hb dX10_unlike_90 rfl (lv_at hl 3 rfl) ?_
                  refine lv_imul hx hb dX10_unlike_91 ?_
                  refine lv_iload hx hb dX10_unlike_92 (lv_at hl 5 rfl) ?_
                  refine lv_iadd hx hb dX10_unlike_94 ?_
                  refine lv_topi (fun x2_36 ex2_36 => ?_)
                  have hf := x_lE ex2_36 hf
                  refine lv_istore_n (lv' := [(2, .int x2_36), (1, .int x5_25), (5, .int x5_25), (0, .ref (g.2.2.1 0)), (3, .int x3_3), (4, .int x4_16)]) hx hb dX10_unlike_95 rfl hl (by decide) rfl (fun ls hl => ?_)
                  exact hk96_28 _ _ _ _ _ _ (lv_sub hl [3, 4, 5, 1, 0] rfl) hw hf
        exact hL_37 _ _ _ _ _ _ _ _ (lv_sub hl [1, 4, 2, 3, 0] rfl) hw hf
  exact hL_38 _ _ _ _ _ _ _ _ (lv_sub hl [3, 2, 1, 0] rfl) hw hf
noncomputable def fX10_spread_L21 (a1 : Int32) (k93_7 : xM → Int32 → Int32 → Option (Int32 × xM)) : Nat → xM → Int32 → Int32 → Int32 → Option (Int32 × xM)
  | 0, _, _, _, _ => none
  | n_13 + 1, M_12, x2_9, x3_10, x4_11 => if (M_12 1 4) ≤ x4_11 then (k93_7 M_12 x2_9 x3_10) else (x_l (fun (M_18 : xM) (z_16 : Int32) => x_b (fX8_shareOf M_18 x4_11 z_16) fun v_21 M_19 => x_l (if x2_9 < v_21 then v_21 else x2_9) fun x2_22 => x_l (if v_21 < x3_10 then v_21 else x3_10) fun x3_23 => x_l (x4_11 + (1 : Int32)) fun x4_24 => fX10_spread_L21 a1 k93_7 n_13 M_19 x2_22 x3_23 x4_24) fun k68_17 => if a1 = 0 then (x_g x4_11 16 (x_b (fX2_fine M_12 (169 + x4_11.toNatClampNeg)) fun v_33 M_31 => k68_17 M_31 v_33)) else (x_b (fX8_flatOf M_12 x4_11) fun v_28 M_26 => k68_17 M_26 v_28))
noncomputable def fX10_spread (M : xM) (a1 : Int32) : Option (Int32 × xM) := x_b (fX10_isWithin M a1 (0 : Int32) (1 : Int32)) fun v_3 M_1 => if v_3 = 0 then (some ((-1000000001 : Int32), M_1)) else (x_l (fun (M_8 : xM) (x2_5 : Int32) (x3_6 : Int32) => some ((if (0 : Int32) < (x2_5 - x3_6) then (x2_5 - x3_6) else (0 : Int32)), M_8)) fun k93_7 => fX10_spread_L21 a1 k93_7 x_FU M_1 (0 : Int32) (9999999 : Int32) (0 : Int32))
set_option maxRecDepth 100000 in
set_option maxHeartbeats 4000000 in
theorem mX10_spread (l : Launch) (g : xG) {a1 : Int32} {r : Int32} {M' : xM}  {M : xM} (hf : fX10_spread M a1 = some (r, M')) : x_cI l g 0 yX10_spread cX10_spread 6 .int 5 123 [.ref (g.2.2.1 0), .int a1] M (fun v N => v = r ∧ N = M') := by
  refine x_stI RX10 (by decide) rfl (Nat.le_of_ble_eq_true rfl) ?_
  intro p e s m args below meth c Q ls C hw ret hl
  obtain ⟨hx, hb, hml, hown, hB, -⟩ := id C
  have hl : lv_has ls 6 [(0, .ref (g.2.2.1 0)), (1, .int a1)] := hl
  unfold fX10_spread at hf
  refine lv_iload_n hx hb dX10_spread_0 rfl (lv_at hl 1 rfl) ?_
  refine lv_iconst (v := (0 : Int32)) hx hb dX10_spread_1 (by decide) ?_
  refine lv_iconst (v := (1 : Int32)) hx hb dX10_spread_2 (by decide) ?_
  obtain ⟨tv_3, tM_1, c_2, hf⟩ := x_bE hf
  refine x_sI C hw hl.1 [.int a1, .int (0 : Int32), .int (1 : Int32)] [] (mX10_isWithin l g c_2) lk_X10_57 (by decide) rfl (Nat.le_of_ble_eq_true rfl) ⟨Nat.zero_le _, Nat.zero_le _⟩ dX10_spread_3 (fun v_3 M_1 H locs hN hw => ?_)
  obtain ⟨rfl, rfl⟩ := hN
  refine lv_if_ne (tgt := 12) hx hb dX10_spread_6 (by decide) (fun q_4 => ?_) (fun q_4 => ?_)
  · have hf := x_iN hf q_4
    refine lv_iconst (v := (0 : Int32)) hx hb dX10_spread_12 (by decide) ?_
    refine lv_istore_n (lv' := [(2, .int (0 : Int32)), (0, .ref (g.2.2.1 0)), (1, .int a1)]) hx hb dX10_spread_13 rfl hl (by decide) rfl (fun ls hl => ?_)
    refine lv_ldcw hx hb hown (hB _ mk_X10_292) dX10_spread_14 ?_
    refine lv_istore_n (lv' := [(3, .int (9999999 : Int32)), (2, .int (0 : Int32)), (0, .ref (g.2.2.1 0)), (1, .int a1)]) hx hb dX10_spread_17 rfl hl (by decide) rfl (fun ls hl => ?_)
    refine lv_iconst (v := (0 : Int32)) hx hb dX10_spread_18 (by decide) ?_
    refine lv_istore (lv' := [(4, .int (0 : Int32)), (3, .int (9999999 : Int32)), (2, .int (0 : Int32)), (0, .ref (g.2.2.1 0)), (1, .int a1)]) hx hb dX10_spread_19 hl (by decide) rfl (fun ls hl => ?_)
    obtain ⟨k93_7, ek93_7, hf⟩ := x_jE hf
    have hk93_7 : ∀ (H : Heap) (locs : List Loc) (M_8 : xM) (x2_5 : Int32) (x3_6 : Int32) (ls : Array Slot) , lv_has ls 6 [(2, .int x2_5), (3, .int x3_6)] → x_w g 0 s H locs M_8 → k93_7 M_8 x2_5 x3_6 = some (r, M') → W p l e (x_rm 5 123) s m args below meth c H locs 0 0 Q (F0 m 93 ls []) := by
      intro H locs M_8 x2_5 x3_6 ls  hl hw hf
      rw [ek93_7] at hf
      refine lv_iconst (v := (0 : Int32)) hx hb dX10_spread_93 (by decide) ?_
      refine lv_iload_n hx hb dX10_spread_94 rfl (lv_at hl 0 rfl) ?_
      refine lv_iload_n hx hb dX10_spread_95 rfl (lv_at hl 1 rfl) ?_
      refine lv_isub hx hb dX10_spread_96 ?_
      refine mm_X10_326 C hl.1 (Nat.le_of_ble_eq_true rfl) (Nat.le_of_ble_eq_true rfl) ⟨Nat.zero_le _, Nat.zero_le _⟩ dX10_spread_97 ?_
      exact ret hf dX10_spread_100 hw
    have hL_34 : ∀ (n_13 : Nat) (H : Heap) (locs : List Loc) (M_12 : xM) (x2_9 : Int32) (x3_10 : Int32) (x4_11 : Int32) (ls : Array Slot) , lv_has ls 6 [(0, .ref (g.2.2.1 0)), (1, .int a1), (2, .int x2_9), (3, .int x3_10), (4, .int x4_11)] → x_w g 0 s H locs M_12 → fX10_spread_L21 a1 k93_7 n_13 M_12 x2_9 x3_10 x4_11 = some (r, M') → W p l e (x_rm 5 123) s m args below meth c H locs 0 0 Q (F0 m 21 ls []) := by
      intro n_13
      induction n_13 with
      | zero =>
        intro H locs M_12 x2_9 x3_10 x4_11 ls  hl hw hf
        rw [fX10_spread_L21] at hf
        cases hf
      | succ n_13 ih_14 =>
        intro H locs M_12 x2_9 x3_10 x4_11 ls  hl hw hf
        rw [fX10_spread_L21] at hf
        refine lv_iload hx hb dX10_spread_21 (lv_at hl 4 rfl) ?_
        refine lv_aload_n hx hb dX10_spread_23 rfl (lv_at hl 0 rfl) ?_
        refine fg_X10_10 (k2 := 1) C hw ic0_0 rfl dX10_spread_24 ?_
        refine fg_X10_217 C hw ic0_1 dX10_spread_27 ?_
        refine lv_icmp_ge (tgt := 93) hx hb dX10_spread_30 (by decide) (fun q_15 => ?_) (fun q_15 => ?_)
        · have hf := x_iP hf q_15
          exact hk93_7 _ _ _ _ _ _ (lv_sub hl [2, 3] rfl) hw hf
        · have hf := x_iN hf q_15
          refine lv_aload_n hx hb dX10_spread_33 rfl (lv_at hl 0 rfl) ?_
          refine fg_X10_10 (k2 := 1) C hw ic0_0 rfl dX10_spread_34 ?_
          refine lv_iload hx hb dX10_spread_37 (lv_at hl 4 rfl) ?_
          refine lv_iload_n hx hb dX10_spread_39 rfl (lv_at hl 1 rfl) ?_
          obtain ⟨k68_17, ek68_17, hf⟩ := x_jE hf
          have hk68_17 : ∀ (H : Heap) (locs : List Loc) (M_18 : xM) (z_16 : Int32) (ls : Array Slot) , lv_has ls 6 [(0, .ref (g.2.2.1 0)), (1, .int a1), (2, .int x2_9), (3, .int x3_10), (4, .int x4_11)] → x_w g 0 s H locs M_18 → k68_17 M_18 z_16 = some (r, M') → W p l e (x_rm 5 123) s m args below meth c H locs 0 0 Q (F0 m 68 ls [.int z_16, .int x4_11, .ref (g.2.2.1 1)]) := by
            intro H locs M_18 z_16 ls  hl hw hf
            rw [ek68_17] at hf
            obtain ⟨tv_21, tM_19, c_20, hf⟩ := x_bE hf
            refine x_vI C hw hl.1 [.int x4_11, .int z_16] [] (mX8_shareOf l g c_20) lk_X10_274 ic0_1 (by decide) rfl (by decide) rfl (Nat.le_of_ble_eq_true rfl) ⟨Nat.zero_le _, Nat.zero_le _⟩ dX10_spread_68 (fun v_21 M_19 H locs hN hw => ?_)
            obtain ⟨rfl, rfl⟩ := hN
            refine lv_istore (lv' := [(5, .int v_21), (0, .ref (g.2.2.1 0)), (1, .int a1), (2, .int x2_9), (3, .int x3_10), (4, .int x4_11)]) hx hb dX10_spread_71 hl (by decide) rfl (fun ls hl => ?_)
            refine lv_iload_n hx hb dX10_spread_73 rfl (lv_at hl 3 rfl) ?_
            refine lv_iload hx hb dX10_spread_74 (lv_at hl 0 rfl) ?_
            refine mm_X10_326 C hl.1 (Nat.le_of_ble_eq_true rfl) (Nat.le_of_ble_eq_true rfl) ⟨Nat.zero_le _, Nat.zero_le _⟩ dX10_spread_76 ?_
            refine lv_topi (fun x2_22 ex2_22 => ?_)
            have hf := x_lE ex2_22 hf
            refine lv_istore_n (lv' := [(2, .int x2_22), (5, .int v_21), (0, .ref (g.2.2.1 0)), (1, .int a1), (3, .int x3_10), (4, .int x4_11)]) hx hb dX10_spread_79 rfl hl (by decide) rfl (fun ls hl => ?_)
            refine lv_iload_n hx hb dX10_spread_80 rfl (lv_at hl 4 rfl) ?_
            refine lv_iload hx hb dX10_spread_81 (lv_at hl 1 rfl) ?_
            refine mm_X10_224 C hl.1 (Nat.le_of_ble_eq_true rfl) (Nat.le_of_ble_eq_true rfl) ⟨Nat.zero_le _, Nat.zero_le _⟩ dX10_spread_83 ?_
            refine lv_topi (fun x3_23 ex3_23 => ?_)
            have hf := x_lE ex3_23 hf
            refine lv_istore_n (lv' := [(3, .int x3_23), (2, .int x2_22), (5, .int v_21), (0, .ref (g.2.2.1 0)), (1, .int a1), (4, .int x4_11)]) hx hb dX10_spread_86 rfl hl (by decide) rfl (fun ls hl => ?_)
            obtain ⟨x4_24, ex4_24⟩ : ∃ z : Int32, z = (x4_11 + (1 : Int32)) := ⟨_, rfl⟩
            have hf := x_lE ex4_24 hf
            refine lv_iinc (v := x4_24) (lv' := [(4, .int x4_24), (3, .int x3_23), (2, .int x2_22), (5, .int v_21), (0, .ref (g.2.2.1 0)), (1, .int a1)]) hx hb dX10_spread_87 hl (k := 5) rfl (by rw [ex4_24]; rfl) (by decide) rfl (fun ls hl => ?_)
            refine lv_goto (tgt := 21) hx hb dX10_spread_90 (by decide) ?_
            exact ih_14 _ _ _ _ _ _ _ (lv_sub hl [4, 5, 2, 1, 0] rfl) hw hf
          refine lv_if_ne (tgt := 59) hx hb dX10_spread_40 (by decide) (fun q_25 => ?_) (fun q_25 => ?_)
          · have hf := x_iN hf q_25
            refine lv_aload_n hx hb dX10_spread_59 rfl (lv_at hl 0 rfl) ?_
            refine fg_X10_10 (k2 := 1) C hw ic0_0 rfl dX10_spread_60 ?_
            refine lv_iload hx hb dX10_spread_63 (lv_at hl 4 rfl) ?_
            obtain ⟨tv_28, tM_26, c_27, hf⟩ := x_bE hf
            refine x_vI C hw hl.1 [.int x4_11] [.int x4_11, .ref (g.2.2.1 1)] (mX8_flatOf l g c_27) lk_X10_277 ic0_1 (by decide) rfl (by decide) rfl (Nat.le_of_ble_eq_true rfl) ⟨Nat.zero_le _, Nat.zero_le _⟩ dX10_spread_65 (fun v_28 M_26 H locs hN hw => ?_)
            obtain ⟨rfl, rfl⟩ := hN
            exact hk68_17 _ _ _ _ _ (lv_sub hl [0, 1, 2, 3, 4] rfl) hw hf
          · have hf := x_iP hf q_25
            refine lv_aload_n hx hb dX10_spread_43 rfl (lv_at hl 0 rfl) ?_
            refine fg_X10_10 (k2 := 1) C hw ic0_0 rfl dX10_spread_44 ?_
            refine fg_X10_230 (k2 := 22) C hw ic0_1 rfl dX10_spread_47 ?_
            refine lv_iload hx hb dX10_spread_50 (lv_at hl 4 rfl) ?_
            obtain ⟨q_29, hf⟩ := x_gE hf
            refine x_rld (t := 4) (k2 := (169 + x4_11.toNatClampNeg)) C hw ic0_22 (by decide) rfl q_29 (rr0_22 _) dX10_spread_52 ?_
            have h_30 : x_is 0 (169 + x4_11.toNatClampNeg) 2 := (rr0_22 x4_11.toNatClampNeg) ▸ x_ta ic0_22 (by decide) (x_ilt q_29)
            obtain ⟨tv_33, tM_31, c_32, hf⟩ := x_bE hf
            refine x_vI C hw hl.1 [] [.int x4_11, .ref (g.2.2.1 1)] (mX2_fine l g h_30 c_32) lk_X10_253 h_30 (by decide) rfl (by decide) rfl (Nat.le_of_ble_eq_true rfl) ⟨Nat.zero_le _, Nat.zero_le _⟩ dX10_spread_53 (fun v_33 M_31 H locs hN hw => ?_)
            obtain ⟨rfl, rfl⟩ := hN
            refine lv_goto (tgt := 68) hx hb dX10_spread_56 (by decide) ?_
            exact hk68_17 _ _ _ _ _ (lv_sub hl [0, 1, 2, 3, 4] rfl) hw hf
    exact hL_34 _ _ _ _ _ _ _ _ (lv_sub hl [3, 4, 2, 1, 0] rfl) hw hf
  · have hf := x_iP hf q_4
    refine lv_ldc hx hb hown (hB _ mk_X10_61) dX10_spread_9 ?_
    exact ret hf dX10_spread_11 hw
