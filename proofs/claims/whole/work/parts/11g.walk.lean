noncomputable def fX11_count_L90  : Nat → xM → Int32 → Int32 → Option (Int32 × xM)
  | 0, _, _, _ => none
  | n_13 + 1, M_12, x2_10, x3_11 => if (M_12 1 17) ≤ x3_11 then (some (x2_10, M_12)) else (x_g (((30 : Int32) + ((3 : Int32) * x3_11)) + (1 : Int32)) 1675 (x_l (fun (M_20 : xM) (z_18 : Int32) => x_l (x2_10 + z_18) fun x2_21 => x_l (x3_11 + (1 : Int32)) fun x3_22 => fX11_count_L90 n_13 M_20 x2_21 x3_22) fun k124_19 => if (M_12 1 (((30 : Int32) + ((3 : Int32) * x3_11)) + (1 : Int32)).toNatClampNeg) ≤ x3_11 then (k124_19 M_12 (0 : Int32)) else (k124_19 M_12 (1 : Int32))))
noncomputable def fX11_count_L160  : Nat → xM → Int32 → Int32 → Option (Int32 × xM)
  | 0, _, _, _ => none
  | n_37 + 1, M_36, x2_34, x3_35 => if (M_36 1 17) ≤ x3_35 then (some (x2_34, M_36)) else (x_g (((30 : Int32) + ((3 : Int32) * x3_35)) + (2 : Int32)) 1675 (x_l (x2_34 + (M_36 1 (((30 : Int32) + ((3 : Int32) * x3_35)) + (2 : Int32)).toNatClampNeg)) fun x2_42 => x_l (x3_35 + (1 : Int32)) fun x3_43 => fX11_count_L160 n_37 M_36 x2_42 x3_43))
noncomputable def fX11_count (M : xM) (a1 : Int32) : Option (Int32 × xM) := if a1 = (0 : Int32) then (some ((M 1 17), M)) else (if a1 = (1 : Int32) then (some ((M 1 18), M)) else (if a1 = (2 : Int32) then (some ((M 1 19), M)) else (if a1 = (3 : Int32) then (some ((M 1 20), M)) else (if a1 = (4 : Int32) then (fX11_count_L90 x_FU M (0 : Int32) (0 : Int32)) else (if a1 = (5 : Int32) then (x_b (fX11_deedsOf M (-1 : Int32) (-1 : Int32)) fun v_28 M_26 => some (v_28, M_26)) else (if a1 = (6 : Int32) then (some ((M 0 27), M)) else (if a1 = (7 : Int32) then (some ((M 0 4), M)) else (if a1 = (8 : Int32) then (some ((M 1 0), M)) else (if a1 = (9 : Int32) then (fX11_count_L160 x_FU M (0 : Int32) (0 : Int32)) else (some ((-1000000001 : Int32), M)))))))))))
set_option maxRecDepth 100000 in
set_option maxHeartbeats 4000000 in
theorem mX11_count (l : Launch) (g : xG) {a1 : Int32} {r : Int32} {M' : xM}  {M : xM} (hf : fX11_count M a1 = some (r, M')) : x_cI l g 1 yX11_count cX11_count 4 .int 1 24 [.ref (g.2.2.1 0), .int a1] M (fun v N => v = r ∧ N = M') := by
  refine x_stI RX11 (by decide) rfl (Nat.le_of_ble_eq_true rfl) ?_
  intro p e s m args below meth c Q ls C hw ret hl
  obtain ⟨hx, hb, hml, hown, hB, -⟩ := id C
  have hl : lv_has ls 4 [(0, .ref (g.2.2.1 0)), (1, .int a1)] := hl
  unfold fX11_count at hf
  refine lv_iconst (v := (0 : Int32)) hx hb dX11_count_0 (by decide) ?_
  refine lv_istore_n (lv' := [(2, .int (0 : Int32)), (0, .ref (g.2.2.1 0)), (1, .int a1)]) hx hb dX11_count_1 rfl hl (by decide) rfl (fun ls hl => ?_)
  refine lv_iload_n hx hb dX11_count_2 rfl (lv_at hl 2 rfl) ?_
  by_cases q_1 : a1 = (0 : Int32)
  · have hf := x_iP hf q_1
    refine lv_tableIn (off := 53) (tgt := 56) hx hb dX11_count_3 (by rw [q_1]; decide) (by rw [q_1]; decide) (by rw [q_1]; rfl) (by decide) ?_
    refine lv_aload_n hx hb dX11_count_56 rfl (lv_at hl 1 rfl) ?_
    refine fg_X11_7 (k2 := 1) C hw ic1_0 rfl dX11_count_57 ?_
    refine lv_bipush (v := (17 : Int32)) hx hb dX11_count_60 (by decide) ?_
    refine x_ald (j := 17) C hw ic1_1 (x_inl rfl) rfl dX11_count_62 ?_
    exact ret hf dX11_count_63 hw
  have hf := x_iN hf q_1
  by_cases q_3 : a1 = (1 : Int32)
  · have hf := x_iP hf q_3
    refine lv_tableIn (off := 61) (tgt := 64) hx hb dX11_count_3 (by rw [q_3]; decide) (by rw [q_3]; decide) (by rw [q_3]; rfl) (by decide) ?_
    refine lv_aload_n hx hb dX11_count_64 rfl (lv_at hl 1 rfl) ?_
    refine fg_X11_7 (k2 := 1) C hw ic1_0 rfl dX11_count_65 ?_
    refine lv_bipush (v := (18 : Int32)) hx hb dX11_count_68 (by decide) ?_
    refine x_ald (j := 18) C hw ic1_1 (x_inl rfl) rfl dX11_count_70 ?_
    exact ret hf dX11_count_71 hw
  have hf := x_iN hf q_3
  by_cases q_5 : a1 = (2 : Int32)
  · have hf := x_iP hf q_5
    refine lv_tableIn (off := 69) (tgt := 72) hx hb dX11_count_3 (by rw [q_5]; decide) (by rw [q_5]; decide) (by rw [q_5]; rfl) (by decide) ?_
    refine lv_aload_n hx hb dX11_count_72 rfl (lv_at hl 1 rfl) ?_
    refine fg_X11_7 (k2 := 1) C hw ic1_0 rfl dX11_count_73 ?_
    refine lv_bipush (v := (19 : Int32)) hx hb dX11_count_76 (by decide) ?_
    refine x_ald (j := 19) C hw ic1_1 (x_inl rfl) rfl dX11_count_78 ?_
    exact ret hf dX11_count_79 hw
  have hf := x_iN hf q_5
  by_cases q_7 : a1 = (3 : Int32)
  · have hf := x_iP hf q_7
    refine lv_tableIn (off := 77) (tgt := 80) hx hb dX11_count_3 (by rw [q_7]; decide) (by rw [q_7]; decide) (by rw [q_7]; rfl) (by decide) ?_
    refine lv_aload_n hx hb dX11_count_80 rfl (lv_at hl 1 rfl) ?_
    refine fg_X11_7 (k2 := 1) C hw ic1_0 rfl dX11_count_81 ?_
    refine lv_bipush (v := (20 : Int32)) hx hb dX11_count_84 (by decide) ?_
    refine x_ald (j := 20) C hw ic1_1 (x_inl rfl) rfl dX11_count_86 ?_
    exact ret hf dX11_count_87 hw
  have hf := x_iN hf q_7
  by_cases q_9 : a1 = (4 : Int32)
  · have hf := x_iP hf q_9
    refine lv_tableIn (off := 85) (tgt := 88) hx hb dX11_count_3 (by rw [q_9]; decide) (by rw [q_9]; decide) (by rw [q_9]; rfl) (by decide) ?_
    refine lv_iconst (v := (0 : Int32)) hx hb dX11_count_88 (by decide) ?_
    refine lv_istore_n (lv' := [(3, .int (0 : Int32)), (2, .int (0 : Int32)), (0, .ref (g.2.2.1 0)), (1, .int a1)]) hx hb dX11_count_89 rfl hl (by decide) rfl (fun ls hl => ?_)
    have hL_24 : ∀ (n_13 : Nat) (H : Heap) (locs : List Loc) (M_12 : xM) (x2_10 : Int32) (x3_11 : Int32) (ls : Array Slot) , lv_has ls 4 [(0, .ref (g.2.2.1 0)), (2, .int x2_10), (3, .int x3_11)] → x_w g 1 s H locs M_12 → fX11_count_L90 n_13 M_12 x2_10 x3_11 = some (r, M') → W p l e (x_rm 1 24) s m args below meth c H locs 0 0 Q (F0 m 90 ls []) := by
      intro n_13
      induction n_13 with
      | zero =>
        intro H locs M_12 x2_10 x3_11 ls  hl hw hf
        rw [fX11_count_L90] at hf
        cases hf
      | succ n_13 ih_14 =>
        intro H locs M_12 x2_10 x3_11 ls  hl hw hf
        rw [fX11_count_L90] at hf
        refine lv_iload_n hx hb dX11_count_90 rfl (lv_at hl 2 rfl) ?_
        refine lv_aload_n hx hb dX11_count_91 rfl (lv_at hl 0 rfl) ?_
        refine fg_X11_7 (k2 := 1) C hw ic1_0 rfl dX11_count_92 ?_
        refine lv_bipush (v := (17 : Int32)) hx hb dX11_count_95 (by decide) ?_
        refine x_ald (j := 17) C hw ic1_1 (x_inl rfl) rfl dX11_count_97 ?_
        refine lv_icmp_ge (tgt := 132) hx hb dX11_count_98 (by decide) (fun q_16 => ?_) (fun q_16 => ?_)
        · have hf := x_iP hf q_16
          refine lv_iload_n hx hb dX11_count_132 rfl (lv_at hl 1 rfl) ?_
          exact ret hf dX11_count_133 hw
        · have hf := x_iN hf q_16
          refine lv_iload_n hx hb dX11_count_101 rfl (lv_at hl 1 rfl) ?_
          refine lv_aload_n hx hb dX11_count_102 rfl (lv_at hl 0 rfl) ?_
          refine fg_X11_7 (k2 := 1) C hw ic1_0 rfl dX11_count_103 ?_
          refine lv_bipush (v := (30 : Int32)) hx hb dX11_count_106 (by decide) ?_
          refine lv_iconst (v := (3 : Int32)) hx hb dX11_count_108 (by decide) ?_
          refine lv_iload_n hx hb dX11_count_109 rfl (lv_at hl 2 rfl) ?_
          refine lv_imul hx hb dX11_count_110 ?_
          refine lv_iadd hx hb dX11_count_111 ?_
          refine lv_iconst (v := (1 : Int32)) hx hb dX11_count_112 (by decide) ?_
          refine lv_iadd hx hb dX11_count_113 ?_
          obtain ⟨q_17, hf⟩ := x_gE hf
          refine x_ald C hw ic1_1 q_17 rfl dX11_count_114 ?_
          refine lv_iload_n hx hb dX11_count_115 rfl (lv_at hl 2 rfl) ?_
          obtain ⟨k124_19, ek124_19, hf⟩ := x_jE hf
          have hk124_19 : ∀ (H : Heap) (locs : List Loc) (M_20 : xM) (z_18 : Int32) (ls : Array Slot) , lv_has ls 4 [(0, .ref (g.2.2.1 0)), (3, .int x3_11)] → x_w g 1 s H locs M_20 → k124_19 M_20 z_18 = some (r, M') → W p l e (x_rm 1 24) s m args below meth c H locs 0 0 Q (F0 m 124 ls [.int z_18, .int x2_10]) := by
            intro H locs M_20 z_18 ls  hl hw hf
            rw [ek124_19] at hf
            refine lv_iadd hx hb dX11_count_124 ?_
            refine lv_topi (fun x2_21 ex2_21 => ?_)
            have hf := x_lE ex2_21 hf
            refine lv_istore_n (lv' := [(2, .int x2_21), (0, .ref (g.2.2.1 0)), (3, .int x3_11)]) hx hb dX11_count_125 rfl hl (by decide) rfl (fun ls hl => ?_)
            obtain ⟨x3_22, ex3_22⟩ : ∃ z : Int32, z = (x3_11 + (1 : Int32)) := ⟨_, rfl⟩
            have hf := x_lE ex3_22 hf
            refine lv_iinc (v := x3_22) (lv' := [(3, .int x3_22), (2, .int x2_21), (0, .ref (g.2.2.1 0))]) hx hb dX11_count_126 hl (k := 2) rfl (by rw [ex3_22]; rfl) (by decide) rfl (fun ls hl => ?_)
            refine lv_goto (tgt := 90) hx hb dX11_count_129 (by decide) ?_
            exact ih_14 _ _ _ _ _ _ (lv_sub hl [2, 1, 0] rfl) hw hf
          refine lv_icmp_le (tgt := 123) hx hb dX11_count_116 (by decide) (fun q_23 => ?_) (fun q_23 => ?_)
          · have hf := x_iP hf q_23
            refine lv_iconst (v := (0 : Int32)) hx hb dX11_count_123 (by decide) ?_
            exact hk124_19 _ _ _ _ _ (lv_sub hl [0, 2] rfl) hw hf
          · have hf := x_iN hf q_23
            refine lv_iconst (v := (1 : Int32)) hx hb dX11_count_119 (by decide) ?_
            refine lv_goto (tgt := 124) hx hb dX11_count_120 (by decide) ?_
            exact hk124_19 _ _ _ _ _ (lv_sub hl [0, 2] rfl) hw hf
    exact hL_24 _ _ _ _ _ _ _ (lv_sub hl [2, 1, 0] rfl) hw hf
  have hf := x_iN hf q_9
  by_cases q_25 : a1 = (5 : Int32)
  · have hf := x_iP hf q_25
    refine lv_tableIn (off := 131) (tgt := 134) hx hb dX11_count_3 (by rw [q_25]; decide) (by rw [q_25]; decide) (by rw [q_25]; rfl) (by decide) ?_
    refine lv_aload_n hx hb dX11_count_134 rfl (lv_at hl 1 rfl) ?_
    refine lv_iconst (v := (-1 : Int32)) hx hb dX11_count_135 (by decide) ?_
    refine lv_iconst (v := (-1 : Int32)) hx hb dX11_count_136 (by decide) ?_
    obtain ⟨tv_28, tM_26, c_27, hf⟩ := x_bE hf
    refine x_vI C hw hl.1 [.int (-1 : Int32), .int (-1 : Int32)] [] (mX11_deedsOf l g c_27) lk_X11_213 ic1_0 (by decide) rfl (by decide) rfl (Nat.le_of_ble_eq_true rfl) ⟨Nat.zero_le _, Nat.zero_le _⟩ dX11_count_137 (fun v_28 M_26 H locs hN hw => ?_)
    obtain ⟨rfl, rfl⟩ := hN
    exact ret hf dX11_count_140 hw
  have hf := x_iN hf q_25
  by_cases q_29 : a1 = (6 : Int32)
  · have hf := x_iP hf q_29
    refine lv_tableIn (off := 138) (tgt := 141) hx hb dX11_count_3 (by rw [q_29]; decide) (by rw [q_29]; decide) (by rw [q_29]; rfl) (by decide) ?_
    refine lv_aload_n hx hb dX11_count_141 rfl (lv_at hl 1 rfl) ?_
    refine fg_X11_260 C hw ic1_0 dX11_count_142 ?_
    exact ret hf dX11_count_145 hw
  have hf := x_iN hf q_29
  by_cases q_30 : a1 = (7 : Int32)
  · have hf := x_iP hf q_30
    refine lv_tableIn (off := 143) (tgt := 146) hx hb dX11_count_3 (by rw [q_30]; decide) (by rw [q_30]; decide) (by rw [q_30]; rfl) (by decide) ?_
    refine lv_aload_n hx hb dX11_count_146 rfl (lv_at hl 1 rfl) ?_
    refine fg_X11_99 C hw ic1_0 dX11_count_147 ?_
    exact ret hf dX11_count_150 hw
  have hf := x_iN hf q_30
  by_cases q_31 : a1 = (8 : Int32)
  · have hf := x_iP hf q_31
    refine lv_tableIn (off := 148) (tgt := 151) hx hb dX11_count_3 (by rw [q_31]; decide) (by rw [q_31]; decide) (by rw [q_31]; rfl) (by decide) ?_
    refine lv_aload_n hx hb dX11_count_151 rfl (lv_at hl 1 rfl) ?_
    refine fg_X11_7 (k2 := 1) C hw ic1_0 rfl dX11_count_152 ?_
    refine lv_iconst (v := (0 : Int32)) hx hb dX11_count_155 (by decide) ?_
    refine x_ald (j := 0) C hw ic1_1 (x_inl rfl) rfl dX11_count_156 ?_
    exact ret hf dX11_count_157 hw
  have hf := x_iN hf q_31
  by_cases q_33 : a1 = (9 : Int32)
  · have hf := x_iP hf q_33
    refine lv_tableIn (off := 155) (tgt := 158) hx hb dX11_count_3 (by rw [q_33]; decide) (by rw [q_33]; decide) (by rw [q_33]; rfl) (by decide) ?_
    refine lv_iconst (v := (0 : Int32)) hx hb dX11_count_158 (by decide) ?_
    refine lv_istore_n (lv' := [(3, .int (0 : Int32)), (2, .int (0 : Int32)), (0, .ref (g.2.2.1 0)), (1, .int a1)]) hx hb dX11_count_159 rfl hl (by decide) rfl (fun ls hl => ?_)
    have hL_44 : ∀ (n_37 : Nat) (H : Heap) (locs : List Loc) (M_36 : xM) (x2_34 : Int32) (x3_35 : Int32) (ls : Array Slot) , lv_has ls 4 [(0, .ref (g.2.2.1 0)), (2, .int x2_34), (3, .int x3_35)] → x_w g 1 s H locs M_36 → fX11_count_L160 n_37 M_36 x2_34 x3_35 = some (r, M') → W p l e (x_rm 1 24) s m args below meth c H locs 0 0 Q (F0 m 160 ls []) := by
      intro n_37
      induction n_37 with
      | zero =>
        intro H locs M_36 x2_34 x3_35 ls  hl hw hf
        rw [fX11_count_L160] at hf
        cases hf
      | succ n_37 ih_38 =>
        intro H locs M_36 x2_34 x3_35 ls  hl hw hf
        rw [fX11_count_L160] at hf
        refine lv_iload_n hx hb dX11_count_160 rfl (lv_at hl 2 rfl) ?_
        refine lv_aload_n hx hb dX11_count_161 rfl (lv_at hl 0 rfl) ?_
        refine fg_X11_7 (k2 := 1) C hw ic1_0 rfl dX11_count_162 ?_
        refine lv_bipush (v := (17 : Int32)) hx hb dX11_count_165 (by decide) ?_
        refine x_ald (j := 17) C hw ic1_1 (x_inl rfl) rfl dX11_count_167 ?_
        refine lv_icmp_ge (tgt := 193) hx hb dX11_count_168 (by decide) (fun q_40 => ?_) (fun q_40 => ?_)
        · have hf := x_iP hf q_40
          refine lv_iload_n hx hb dX11_count_193 rfl (lv_at hl 1 rfl) ?_
          exact ret hf dX11_count_194 hw
        · have hf := x_iN hf q_40
          refine lv_iload_n hx hb dX11_count_171 rfl (lv_at hl 1 rfl) ?_
          refine lv_aload_n hx hb dX11_count_172 rfl (lv_at hl 0 rfl) ?_
          refine fg_X11_7 (k2 := 1) C hw ic1_0 rfl dX11_count_173 ?_
          refine lv_bipush (v := (30 : Int32)) hx hb dX11_count_176 (by decide) ?_
          refine lv_iconst (v := (3 : Int32)) hx hb dX11_count_178 (by decide) ?_
          refine lv_iload_n hx hb dX11_count_179 rfl (lv_at hl 2 rfl) ?_
          refine lv_imul hx hb dX11_count_180 ?_
          refine lv_iadd hx hb dX11_count_181 ?_
          refine lv_iconst (v := (2 : Int32)) hx hb dX11_count_182 (by decide) ?_
          refine lv_iadd hx hb dX11_count_183 ?_
          obtain ⟨q_41, hf⟩ := x_gE hf
          refine x_ald C hw ic1_1 q_41 rfl dX11_count_184 ?_
          refine lv_iadd hx hb dX11_count_185 ?_
          refine lv_topi (fun x2_42 ex2_42 => ?_)
          have hf := x_lE ex2_42 hf
          refine lv_istore_n (lv' := [(2, .int x2_42), (0, .ref (g.2.2.1 0)), (3, .int x3_35)]) hx hb dX11_count_186 rfl hl (by decide) rfl (fun ls hl => ?_)
          obtain ⟨x3_43, ex3_43⟩ : ∃ z : Int32, z = (x3_35 + (1 : Int32)) := ⟨_, rfl⟩
          have hf := x_lE ex3_43 hf
          refine lv_iinc (v := x3_43) (lv' := [(3, .int x3_43), (2, .int x2_42), (0, .ref (g.2.2.1 0))]) hx hb dX11_count_187 hl (k := 2) rfl (by rw [ex3_43]; rfl) (by decide) rfl (fun ls hl => ?_)
          refine lv_goto (tgt := 160) hx hb dX11_count_190 (by decide) ?_
          exact ih_38 _ _ _ _ _ _ (lv_sub hl [2, 1, 0] rfl) hw hf
    exact hL_44 _ _ _ _ _ _ _ (lv_sub hl [2, 1, 0] rfl) hw hf
  have hf := x_iN hf q_33
  have tq_1 := lv_neT (a := 0) q_1 rfl
  have tq_3 := lv_neT (a := 1) q_3 rfl
  have tq_5 := lv_neT (a := 2) q_5 rfl
  have tq_7 := lv_neT (a := 3) q_7 rfl
  have tq_9 := lv_neT (a := 4) q_9 rfl
  have tq_25 := lv_neT (a := 5) q_25 rfl
  have tq_29 := lv_neT (a := 6) q_29 rfl
  have tq_30 := lv_neT (a := 7) q_30 rfl
  have tq_31 := lv_neT (a := 8) q_31 rfl
  have tq_33 := lv_neT (a := 9) q_33 rfl
  refine lv_tableOut (tgt := 195) hx hb dX11_count_3 (by omega) (by decide) ?_
  refine lv_ldc hx hb hown (hB _ mk_X11_60) dX11_count_195 ?_
  exact ret hf dX11_count_197 hw
