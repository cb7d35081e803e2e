def fX7_join (M : xM) (a1 : Int32) (a2 : Int32) (a3 : Int32) : Option (Int32 × xM) := if a1 = (38 : Int32) then (x_l (fun (M_4 : xM) (z_2 : Int32) => x_b (fX10_oneIf M_4 z_2) fun v_7 M_5 => some (v_7, M_5)) fun k106_3 => x_l (fun (M_9 : xM) => k106_3 M_9 (0 : Int32)) fun k105_8 => if a2 = 0 then (k105_8 M) else (if a3 = 0 then (k105_8 M) else (k106_3 M (1 : Int32)))) else (if a1 = (42 : Int32) then (some ((a2 * a3), M)) else (if a1 = (43 : Int32) then (some ((a2 + a3), M)) else (if a1 = (45 : Int32) then (some ((a2 - a3), M)) else (if a1 = (60 : Int32) then (x_l (fun (M_18 : xM) (z_16 : Int32) => x_b (fX10_oneIf M_18 z_16) fun v_21 M_19 => some (v_21, M_19)) fun k120_17 => if a3 ≤ a2 then (k120_17 M (0 : Int32)) else (k120_17 M (1 : Int32))) else (if a1 = (61 : Int32) then (x_l (fun (M_26 : xM) (z_24 : Int32) => x_b (fX10_oneIf M_26 z_24) fun v_29 M_27 => some (v_29, M_27)) fun k134_25 => if a2 = a3 then (k134_25 M (1 : Int32)) else (k134_25 M (0 : Int32))) else (if a1 = (62 : Int32) then (x_l (fun (M_34 : xM) (z_32 : Int32) => x_b (fX10_oneIf M_34 z_32) fun v_37 M_35 => some (v_37, M_35)) fun k148_33 => if a2 ≤ a3 then (k148_33 M (0 : Int32)) else (k148_33 M (1 : Int32))) else (if a1 = (124 : Int32) then (x_l (fun (M_42 : xM) (z_40 : Int32) => x_b (fX10_oneIf M_42 z_40) fun v_45 M_43 => some (v_45, M_43)) fun k89_41 => x_l (fun (M_47 : xM) => k89_41 M_47 (1 : Int32)) fun k84_46 => if a2 = 0 then (if a3 = 0 then (k89_41 M (0 : Int32)) else (k84_46 M)) else (k84_46 M)) else (if a3 = 0 then (some ((0 : Int32), M)) else (x_d a3 (some ((a2 / a3), M)))))))))))
set_option maxRecDepth 100000 in
set_option maxHeartbeats 4000000 in
theorem mX7_join (l : Launch) (g : xG) {a1 : Int32} {a2 : Int32} {a3 : Int32} {r : Int32} {M' : xM}  {M : xM} (hf : fX7_join M a1 a2 a3 = some (r, M')) : x_cI l g 0 yX7_join cX7_join 3 .int 1 20 [.int a1, .int a2, .int a3] M (fun v N => v = r ∧ N = M') := by
  refine x_stI RX7 (by decide) rfl (Nat.le_of_ble_eq_true rfl) ?_
  intro p e s m args below meth c Q ls C hw ret hl
  obtain ⟨hx, hb, hml, hown, hB, -⟩ := id C
  have hl : lv_has ls 3 [(0, .int a1), (1, .int a2), (2, .int a3)] := hl
  unfold fX7_join at hf
  refine lv_iload_n hx hb dX7_join_0 rfl (lv_at hl 0 rfl) ?_
  by_cases q_1 : a1 = (38 : Int32)
  · have hf := x_iP hf q_1
    refine lv_lookup (off := 92) (tgt := 93) hx hb dX7_join_1 (by decide) (by rw [q_1]; rfl) (by decide) ?_
    refine lv_iload_n hx hb dX7_join_93 rfl (lv_at hl 1 rfl) ?_
    obtain ⟨k106_3, ek106_3, hf⟩ := x_jE hf
    have hk106_3 : ∀ (H : Heap) (locs : List Loc) (M_4 : xM) (z_2 : Int32) (ls : Array Slot) , lv_has ls 3 [] → x_w g 0 s H locs M_4 → k106_3 M_4 z_2 = some (r, M') → W p l e (x_rm 1 20) s m args below meth c H locs 0 0 Q (F0 m 106 ls [.int z_2]) := by
      intro H locs M_4 z_2 ls  hl hw hf
      rw [ek106_3] at hf
      obtain ⟨tv_7, tM_5, c_6, hf⟩ := x_bE hf
      refine x_nI C hw hl.1 [.int z_2] [] (mX10_oneIf l g c_6) lk_X7_32 (by decide) rfl (Nat.le_of_ble_eq_true rfl) ⟨Nat.zero_le _, Nat.zero_le _⟩ dX7_join_106 (fun v_7 M_5 H locs hN hw => ?_)
      obtain ⟨rfl, rfl⟩ := hN
      exact ret hf dX7_join_109 hw
    obtain ⟨k105_8, ek105_8, hf⟩ := x_jE hf
    have hk105_8 : ∀ (H : Heap) (locs : List Loc) (M_9 : xM)  (ls : Array Slot) , lv_has ls 3 [] → x_w g 0 s H locs M_9 → k105_8 M_9 = some (r, M') → W p l e (x_rm 1 20) s m args below meth c H locs 0 0 Q (F0 m 105 ls []) := by
      intro H locs M_9  ls  hl hw hf
      rw [ek105_8] at hf
      refine lv_iconst (v := (0 : Int32)) hx hb dX7_join_105 (by decide) ?_
      exact hk106_3 _ _ _ _ _ (lv_sub hl [] rfl) hw hf
    refine lv_if_eq (tgt := 105) hx hb dX7_join_94 (by decide) (fun q_10 => ?_) (fun q_10 => ?_)
    · have hf := x_iP hf q_10
      exact hk105_8 _ _ _ _ (lv_sub hl [] rfl) hw hf
    · have hf := x_iN hf q_10
      refine lv_iload_n hx hb dX7_join_97 rfl (lv_at hl 2 rfl) ?_
      refine lv_if_eq (tgt := 105) hx hb dX7_join_98 (by decide) (fun q_11 => ?_) (fun q_11 => ?_)
      · have hf := x_iP hf q_11
        exact hk105_8 _ _ _ _ (lv_sub hl [] rfl) hw hf
      · have hf := x_iN hf q_11
        refine lv_iconst (v := (1 : Int32)) hx hb dX7_join_101 (by decide) ?_
        refine lv_goto (tgt := 106) hx hb dX7_join_102 (by decide) ?_
        exact hk106_3 _ _ _ _ _ (lv_sub hl [] rfl) hw hf
  have hf := x_iN hf q_1
  by_cases q_12 : a1 = (42 : Int32)
  · have hf := x_iP hf q_12
    refine lv_lookup (off := 159) (tgt := 160) hx hb dX7_join_1 (by decide) (by rw [q_12]; rfl) (by decide) ?_
    refine lv_iload_n hx hb dX7_join_160 rfl (lv_at hl 1 rfl) ?_
    refine lv_iload_n hx hb dX7_join_161 rfl (lv_at hl 2 rfl) ?_
    refine lv_imul hx hb dX7_join_162 ?_
    exact ret hf dX7_join_163 hw
  have hf := x_iN hf q_12
  by_cases q_13 : a1 = (43 : Int32)
  · have hf := x_iP hf q_13
    refine lv_lookup (off := 151) (tgt := 152) hx hb dX7_join_1 (by decide) (by rw [q_13]; rfl) (by decide) ?_
    refine lv_iload_n hx hb dX7_join_152 rfl (lv_at hl 1 rfl) ?_
    refine lv_iload_n hx hb dX7_join_153 rfl (lv_at hl 2 rfl) ?_
    refine lv_iadd hx hb dX7_join_154 ?_
    exact ret hf dX7_join_155 hw
  have hf := x_iN hf q_13
  by_cases q_14 : a1 = (45 : Int32)
  · have hf := x_iP hf q_14
    refine lv_lookup (off := 155) (tgt := 156) hx hb dX7_join_1 (by decide) (by rw [q_14]; rfl) (by decide) ?_
    refine lv_iload_n hx hb dX7_join_156 rfl (lv_at hl 1 rfl) ?_
    refine lv_iload_n hx hb dX7_join_157 rfl (lv_at hl 2 rfl) ?_
    refine lv_isub hx hb dX7_join_158 ?_
    exact ret hf dX7_join_159 hw
  have hf := x_iN hf q_14
  by_cases q_15 : a1 = (60 : Int32)
  · have hf := x_iP hf q_15
    refine lv_lookup (off := 109) (tgt := 110) hx hb dX7_join_1 (by decide) (by rw [q_15]; rfl) (by decide) ?_
    refine lv_iload_n hx hb dX7_join_110 rfl (lv_at hl 1 rfl) ?_
    refine lv_iload_n hx hb dX7_join_111 rfl (lv_at hl 2 rfl) ?_
    obtain ⟨k120_17, ek120_17, hf⟩ := x_jE hf
    have hk120_17 : ∀ (H : Heap) (locs : List Loc) (M_18 : xM) (z_16 : Int32) (ls : Array Slot) , lv_has ls 3 [] → x_w g 0 s H locs M_18 → k120_17 M_18 z_16 = some (r, M') → W p l e (x_rm 1 20) s m args below meth c H locs 0 0 Q (F0 m 120 ls [.int z_16]) := by
      intro H locs M_18 z_16 ls  hl hw hf
      rw [ek120_17] at hf
      obtain ⟨tv_21, tM_19, c_20, hf⟩ := x_bE hf
      refine x_nI C hw hl.1 [.int z_16] [] (mX10_oneIf l g c_20) lk_X7_32 (by decide) rfl (Nat.le_of_ble_eq_true rfl) ⟨Nat.zero_le _, Nat.zero_le _⟩ dX7_join_120 (fun v_21 M_19 H locs hN hw => ?_)
      obtain ⟨rfl, rfl⟩ := hN
      exact ret hf dX7_join_123 hw
    refine lv_icmp_ge (tgt := 119) hx hb dX7_join_112 (by decide) (fun q_22 => ?_) (fun q_22 => ?_)
    · have hf := x_iP hf q_22
      refine lv_iconst (v := (0 : Int32)) hx hb dX7_join_119 (by decide) ?_
      exact hk120_17 _ _ _ _ _ (lv_sub hl [] rfl) hw hf
    · have hf := x_iN hf q_22
      refine lv_iconst (v := (1 : Int32)) hx hb dX7_join_115 (by decide) ?_
      refine lv_goto (tgt := 120) hx hb dX7_join_116 (by decide) ?_
      exact hk120_17 _ _ _ _ _ (lv_sub hl [] rfl) hw hf
  have hf := x_iN hf q_15
  by_cases q_23 : a1 = (61 : Int32)
  · have hf := x_iP hf q_23
    refine lv_lookup (off := 123) (tgt := 124) hx hb dX7_join_1 (by decide) (by rw [q_23]; rfl) (by decide) ?_
    refine lv_iload_n hx hb dX7_join_124 rfl (lv_at hl 1 rfl) ?_
    refine lv_iload_n hx hb dX7_join_125 rfl (lv_at hl 2 rfl) ?_
    obtain ⟨k134_25, ek134_25, hf⟩ := x_jE hf
    have hk134_25 : ∀ (H : Heap) (locs : List Loc) (M_26 : xM) (z_24 : Int32) (ls : Array Slot) , lv_has ls 3 [] → x_w g 0 s H locs M_26 → k134_25 M_26 z_24 = some (r, M') → W p l e (x_rm 1 20) s m args below meth c H locs 0 0 Q (F0 m 134 ls [.int z_24]) := by
      intro H locs M_26 z_24 ls  hl hw hf
      rw [ek134_25] at hf
      obtain ⟨tv_29, tM_27, c_28, hf⟩ := x_bE hf
      refine x_nI C hw hl.1 [.int z_24] [] (mX10_oneIf l g c_28) lk_X7_32 (by decide) rfl (Nat.le_of_ble_eq_true rfl) ⟨Nat.zero_le _, Nat.zero_le _⟩ dX7_join_134 (fun v_29 M_27 H locs hN hw => ?_)
      obtain ⟨rfl, rfl⟩ := hN
      exact ret hf dX7_join_137 hw
    refine lv_icmp_ne (tgt := 133) hx hb dX7_join_126 (by decide) (fun q_30 => ?_) (fun q_30 => ?_)
    · have hf := x_iN hf q_30
      refine lv_iconst (v := (0 : Int32)) hx hb dX7_join_133 (by decide) ?_
      exact hk134_25 _ _ _ _ _ (lv_sub hl [] rfl) hw hf
    · have hf := x_iP hf q_30
      refine lv_iconst (v := (1 : Int32)) hx hb dX7_join_129 (by decide) ?_
      refine lv_goto (tgt := 134) hx hb dX7_join_130 (by decide) ?_
      exact hk134_25 _ _ _ _ _ (lv_sub hl [] rfl) hw hf
  have hf := x_iN hf q_23
  by_cases q_31 : a1 = (62 : Int32)
  · have hf := x_iP hf q_31
    refine lv_lookup (off := 137) (tgt := 138) hx hb dX7_join_1 (by decide) (by rw [q_31]; rfl) (by decide) ?_
    refine lv_iload_n hx hb dX7_join_138 rfl (lv_at hl 1 rfl) ?_
    refine lv_iload_n hx hb dX7_join_139 rfl (lv_at hl 2 rfl) ?_
    obtain ⟨k148_33, ek148_33, hf⟩ := x_jE hf
    have hk148_33 : ∀ (H : Heap) (locs : List Loc) (M_34 : xM) (z_32 : Int32) (ls : Array Slot) , lv_has ls 3 [] → x_w g 0 s H locs M_34 → k148_33 M_34 z_32 = some (r, M') → W p l e (x_rm 1 20) s m args below meth c H locs 0 0 Q (F0 m 148 ls [.int z_32]) := by
      intro H locs M_34 z_32 ls  hl hw hf
      rw [ek148_33] at hf
      obtain ⟨tv_37, tM_35, c_36, hf⟩ := x_bE hf
      refine x_nI C hw hl.1 [.int z_32] [] (mX10_oneIf l g c_36) lk_X7_32 (by decide) rfl (Nat.le_of_ble_eq_true rfl) ⟨Nat.zero_le _, Nat.zero_le _⟩ dX7_join_148 (fun v_37 M_35 H locs hN hw => ?_)
      obtain ⟨rfl, rfl⟩ := hN
      exact ret hf dX7_join_151 hw
    refine lv_icmp_le (tgt := 147) hx hb dX7_join_140 (by decide) (fun q_38 => ?_) (fun q_38 => ?_)
    · have hf := x_iP hf q_38
      refine lv_iconst (v := (0 : Int32)) hx hb dX7_join_147 (by decide) ?_
      exact hk148_33 _ _ _ _ _ (lv_sub hl [] rfl) hw hf
    · have hf := x_iN hf q_38
      refine lv_iconst (v := (1 : Int32)) hx hb dX7_join_143 (by decide) ?_
      refine lv_goto (tgt := 148) hx hb dX7_join_144 (by decide) ?_
      exact hk148_33 _ _ _ _ _ (lv_sub hl [] rfl) hw hf
  have hf := x_iN hf q_31
  by_cases q_39 : a1 = (124 : Int32)
  · have hf := x_iP hf q_39
    refine lv_lookup (off := 75) (tgt := 76) hx hb dX7_join_1 (by decide) (by rw [q_39]; rfl) (by decide) ?_
    refine lv_iload_n hx hb dX7_join_76 rfl (lv_at hl 1 rfl) ?_
    obtain ⟨k89_41, ek89_41, hf⟩ := x_jE hf
    have hk89_41 : ∀ (H : Heap) (locs : List Loc) (M_42 : xM) (z_40 : Int32) (ls : Array Slot) , lv_has ls 3 [] → x_w g 0 s H locs M_42 → k89_41 M_42 z_40 = some (r, M') → W p l e (x_rm 1 20) s m args below meth c H locs 0 0 Q (F0 m 89 ls [.int z_40]) := by
      intro H locs M_42 z_40 ls  hl hw hf
      rw [ek89_41] at hf
      obtain ⟨tv_45, tM_43, c_44, hf⟩ := x_bE hf
      refine x_nI C hw hl.1 [.int z_40] [] (mX10_oneIf l g c_44) lk_X7_32 (by decide) rfl (Nat.le_of_ble_eq_true rfl) ⟨Nat.zero_le _, Nat.zero_le _⟩ dX7_join_89 (fun v_45 M_43 H locs hN hw => ?_)
      obtain ⟨rfl, rfl⟩ := hN
      exact ret hf dX7_join_92 hw
    obtain ⟨k84_46, ek84_46, hf⟩ := x_jE hf
    have hk84_46 : ∀ (H : Heap) (locs : List Loc) (M_47 : xM)  (ls : Array Slot) , lv_has ls 3 [] → x_w g 0 s H locs M_47 → k84_46 M_47 = some (r, M') → W p l e (x_rm 1 20) s m args below meth c H locs 0 0 Q (F0 m 84 ls []) := by
      intro H locs M_47  ls  hl hw hf
      rw [ek84_46] at hf
      refine lv_iconst (v := (1 : Int32)) hx hb dX7_join_84 (by decide) ?_
      refine lv_goto (tgt := 89) hx hb dX7_join_85 (by decide) ?_
      exact hk89_41 _ _ _ _ _ (lv_sub hl [] rfl) hw hf
    refine lv_if_ne (tgt := 84) hx hb dX7_join_77 (by decide) (fun q_48 => ?_) (fun q_48 => ?_)
    · have hf := x_iN hf q_48
      exact hk84_46 _ _ _ _ (lv_sub hl [] rfl) hw hf
    · have hf := x_iP hf q_48
      refine lv_iload_n hx hb dX7_join_80 rfl (lv_at hl 2 rfl) ?_
      refine lv_if_eq (tgt := 88) hx hb dX7_join_81 (by decide) (fun q_49 => ?_) (fun q_49 => ?_)
      · have hf := x_iP hf q_49
        refine lv_iconst (v := (0 : Int32)) hx hb dX7_join_88 (by decide) ?_
        exact hk89_41 _ _ _ _ _ (lv_sub hl [] rfl) hw hf
      · have hf := x_iN hf q_49
        exact hk84_46 _ _ _ _ (lv_sub hl [] rfl) hw hf
  have hf := x_iN hf q_39
  refine lv_lookup (off := 163) (tgt := 164) hx hb dX7_join_1 (by decide) ((lv_osw q_1 rfl).trans ((lv_osw q_12 rfl).trans ((lv_osw q_13 rfl).trans ((lv_osw q_14 rfl).trans ((lv_osw q_15 rfl).trans ((lv_osw q_23 rfl).trans ((lv_osw q_31 rfl).trans ((lv_osw q_39 rfl).trans (rfl))))))))) (by decide) ?_
  refine lv_iload_n hx hb dX7_join_164 rfl (lv_at hl 2 rfl) ?_
  refine lv_if_ne (tgt := 172) hx hb dX7_join_165 (by decide) (fun q_50 => ?_) (fun q_50 => ?_)
  · have hf := x_iN hf q_50
    refine lv_iload_n hx hb dX7_join_172 rfl (lv_at hl 1 rfl) ?_
    refine lv_iload_n hx hb dX7_join_173 rfl (lv_at hl 2 rfl) ?_
    obtain ⟨q_51, hf⟩ := x_dE hf
    refine lv_idiv hx hb dX7_join_174 q_51 ?_
    exact ret hf dX7_join_175 hw
  · have hf := x_iP hf q_50
    refine lv_iconst (v := (0 : Int32)) hx hb dX7_join_168 (by decide) ?_
    refine lv_goto (tgt := 175) hx hb dX7_join_169 (by decide) ?_
    exact ret hf dX7_join_175 hw
def fX7_workOut_L24 (k0 : Nat) (a1 : Nat) (a2 : Int32) (k168_5 : xM → Int32 → Option (Int32 × xM)) : Nat → xM → Int32 → Int32 → Option (Int32 × xM)
  | 0, _, _, _ => none
  | n_13 + 1, M_12, x3_10, x5_11 => x_g a2 (xn 0 (xr 0 a1 1)) (if (M_12 (xr 0 a1 1) a2.toNatClampNeg) ≤ x5_11 then (k168_5 M_12 x3_10) else (x_g x5_11 (xn 0 (xr 0 a1 0)) (x_l (M_12 (xr 0 a1 0) x5_11.toNatClampNeg) fun x6_20 => x_l (fun (M_23 : xM) (x3_21 : Int32) => x_l (x5_11 + (1 : Int32)) fun x5_24 => fX7_workOut_L24 k0 a1 a2 k168_5 n_13 M_23 x3_21 x5_24) fun k162_22 => x_l (fun (M_26 : xM) => x_l (x3_10 + (1 : Int32)) fun x3_27 => x_l (fun (M_31 : xM) (z_29 : Int32) => x_g x3_27 (xn 0 (xr 0 k0 1)) (x_l (x_up M_31 (xr 0 k0 1) x3_27.toNatClampNeg z_29) fun M_33 => k162_22 M_33 x3_27)) fun k87_30 => if x6_20 < 0 then (x_g ((-x6_20) - (97 : Int32)) (xn 0 (xr 0 k0 0)) (k87_30 M_26 (M_26 (xr 0 k0 0) ((-x6_20) - (97 : Int32)).toNatClampNeg))) else (k87_30 M_26 x6_20)) fun k58_25 => if 0 ≤ x6_20 then (k58_25 M_12) else (x_b (fX9_isLetter M_12 (-x6_20)) fun v_40 M_38 => if v_40 = 0 then (x_l (fun (M_43 : xM) => if x3_10 < (1 : Int32) then (k162_22 M_43 x3_10) else (x_l (x3_10 + (-1 : Int32)) fun x3_45 => x_g x3_45 (xn 0 (xr 0 k0 1)) (x_g (x3_45 + (1 : Int32)) (xn 0 (xr 0 k0 1)) (x_b (fX7_join M_43 (-x6_20) (M_43 (xr 0 k0 1) x3_45.toNatClampNeg) (M_43 (xr 0 k0 1) (x3_45 + (1 : Int32)).toNatClampNeg)) fun v_51 M_49 => x_g x3_45 (xn 0 (xr 0 k0 1)) (x_l (x_up M_49 (xr 0 k0 1) x3_45.toNatClampNeg v_51) fun M_53 => k162_22 M_53 x3_45))))) fun k128_42 => if x6_20 = (-33 : Int32) then (if x3_10 < 0 then (k128_42 M_38) else (x_g x3_10 (xn 0 (xr 0 k0 1)) (x_l (fun (M_60 : xM) (z_58 : Int32) => x_b (fX10_oneIf M_60 z_58) fun v_63 M_61 => x_g x3_10 (xn 0 (xr 0 k0 1)) (x_l (x_up M_61 (xr 0 k0 1) x3_10.toNatClampNeg v_63) fun M_65 => k162_22 M_65 x3_10)) fun k121_59 => if (M_38 (xr 0 k0 1) x3_10.toNatClampNeg) = 0 then (k121_59 M_38 (1 : Int32)) else (k121_59 M_38 (0 : Int32))))) else (k128_42 M_38)) else (k58_25 M_38)))))
def fX7_workOut (M : xM) (k0 : Nat) (a1 : Nat) (a2 : Int32) : Option (Int32 × xM) := x_l (fun (M_3 : xM) (z_1 : Int32) => x_l (fun (M_6 : xM) (x3_4 : Int32) => if x3_4 < 0 then (some ((0 : Int32), M_6)) else (x_g x3_4 (xn 0 (xr 0 k0 1)) (some ((M_6 (xr 0 k0 1) x3_4.toNatClampNeg), M_6)))) fun k168_5 => fX7_workOut_L24 k0 a1 a2 k168_5 x_FU M_3 (-1 : Int32) z_1) fun k18_2 => if a2 = 0 then (k18_2 M (0 : Int32)) else (x_g (a2 - (1 : Int32)) (xn 0 (xr 0 a1 1)) (k18_2 M (M (xr 0 a1 1) (a2 - (1 : Int32)).toNatClampNeg)))
set_option maxRecDepth 100000 in
set_option maxHeartbeats 4000000 in
theorem mX7_workOut (l : Launch) (g : xG) {k0 : Nat} {a1 : Nat} {a2 : Int32} {r : Int32} {M' : xM} (h0 : x_is 0 k0 7) (ha1 : x_is 0 a1 3) {M : xM} (hf : fX7_workOut M k0 a1 a2 = some (r, M')) : x_cI l g 0 yX7_workOut cX7_workOut 7 .int 2 42 [.ref (g.2.2.1 k0), .ref (g.2.2.1 a1), .int a2] M (fun v N => v = r ∧ N = M') := by
  refine x_stI RX7 (by decide) rfl (Nat.le_of_ble_eq_true rfl) ?_
  intro p e s m args below meth c Q ls C hw ret hl
  obtain ⟨hx, hb, hml, hown, hB, -⟩ := id C
  have hl : lv_has ls 7 [(0, .ref (g.2.2.1 k0)), (1, .ref (g.2.2.1 a1)), (2, .int a2)] := hl
  unfold fX7_workOut at hf
  refine lv_iconst (v := (-1 : Int32)) hx hb dX7_workOut_0 (by decide) ?_
  refine lv_istore_n (lv' := [(3, .int (-1 : Int32)), (0, .ref (g.2.2.1 k0)), (1, .ref (g.2.2.1 a1)), (2, .int a2)]) hx hb dX7_workOut_1 rfl hl (by decide) rfl (fun ls hl => ?_)
  refine lv_iload_n hx hb dX7_workOut_2 rfl (lv_at hl 3 rfl) ?_
  obtain ⟨k18_2, ek18_2, hf⟩ := x_jE hf
  have hk18_2 : ∀ (H : Heap) (locs : List Loc) (M_3 : xM) (z_1 : Int32) (ls : Array Slot) , lv_has ls 7 [(3, .int (-1 : Int32)), (0, .ref (g.2.2.1 k0)), (1, .ref (g.2.2.1 a1)), (2, .int a2)] → x_w g 0 s H locs M_3 → k18_2 M_3 z_1 = some (r, M') → W p l e (x_rm 2 42) s m args below meth c H locs 0 0 Q (F0 m 18 ls [.int z_1]) := by
    intro H locs M_3 z_1 ls  hl hw hf
    rw [ek18_2] at hf
    refine lv_istore (lv' := [(4, .int z_1), (3, .int (-1 : Int32)), (0, .ref (g.2.2.1 k0)), (1, .ref (g.2.2.1 a1)), (2, .int a2)]) hx hb dX7_workOut_18 hl (by decide) rfl (fun ls hl => ?_)
    refine lv_iload hx hb dX7_workOut_20 (lv_at hl 0 rfl) ?_
    refine lv_istore (lv' := [(5, .int z_1), (4, .int z_1), (3, .int (-1 : Int32)), (0, .ref (g.2.2.1 k0)), (1, .ref (g.2.2.1 a1)), (2, .int a2)]) hx hb dX7_workOut_22 hl (by decide) rfl (fun ls hl => ?_)
    obtain ⟨k168_5, ek168_5, hf⟩ := x_jE hf
    have hk168_5 : ∀ (H : Heap) (locs : List Loc) (M_6 : xM) (x3_4 : Int32) (ls : Array Slot) , lv_has ls 7 [(0, .ref (g.2.2.1 k0)), (3, .int x3_4)] → x_w g 0 s H locs M_6 → k168_5 M_6 x3_4 = some (r, M') → W p l e (x_rm 2 42) s m args below meth c H locs 0 0 Q (F0 m 168 ls []) := by
      intro H locs M_6 x3_4 ls  hl hw hf
      rw [ek168_5] at hf
      refine lv_iload_n hx hb dX7_workOut_168 rfl (lv_at hl 1 rfl) ?_
      refine lv_if_lt (tgt := 181) hx hb dX7_workOut_169 (by decide) (fun q_7 => ?_) (fun q_7 => ?_)
      · have hf := x_iP hf q_7
        refine lv_iconst (v := (0 : Int32)) hx hb dX7_workOut_181 (by decide) ?_
        exact ret hf dX7_workOut_182 hw
      · have hf := x_iN hf q_7
        refine lv_aload_n hx hb dX7_workOut_172 rfl (lv_at hl 0 rfl) ?_
        refine fg_X7_15 C hw h0 dX7_workOut_173 ?_
        have h_8 : x_is 0 (xr 0 k0 1) 12 := x_tr h0 (by decide) (by decide) rfl (by decide)
        refine lv_iload_n hx hb dX7_workOut_176 rfl (lv_at hl 1 rfl) ?_
        obtain ⟨q_9, hf⟩ := x_gE hf
        refine x_ald C hw h_8 q_9 dX7_workOut_177 ?_
        refine lv_goto (tgt := 182) hx hb dX7_workOut_178 (by decide) ?_
        exact ret hf dX7_workOut_182 hw
    have hL_67 : ∀ (n_13 : Nat) (H : Heap) (locs : List Loc) (M_12 : xM) (x3_10 : Int32) (x5_11 : Int32) (ls : Array Slot) , lv_has ls 7 [(0, .ref (g.2.2.1 k0)), (1, .ref (g.2.2.1 a1)), (2, .int a2), (3, .int x3_10), (5, .int x5_11)] → x_w g 0 s H locs M_12 → fX7_workOut_L24 k0 a1 a2 k168_5 n_13 M_12 x3_10 x5_11 = some (r, M') → W p l e (x_rm 2 42) s m args below meth c H locs 0 0 Q (F0 m 24 ls []) := by
      intro n_13
      induction n_13 with
      | zero =>
        intro H locs M_12 x3_10 x5_11 ls  hl hw hf
        rw [fX7_workOut_L24] at hf
        cases hf
      | succ n_13 ih_14 =>
        intro H locs M_12 x3_10 x5_11 ls  hl hw hf
        rw [fX7_workOut_L24] at hf
        refine lv_iload hx hb dX7_workOut_24 (lv_at hl 4 rfl) ?_
        refine lv_aload_n hx hb dX7_workOut_26 rfl (lv_at hl 1 rfl) ?_
        refine fg_X7_24 C hw ha1 dX7_workOut_27 ?_
        have h_15 : x_is 0 (xr 0 a1 1) 12 := x_tr ha1 (by decide) (by decide) rfl (by decide)
        refine lv_iload_n hx hb dX7_workOut_30 rfl (lv_at hl 2 rfl) ?_
        obtain ⟨q_16, hf⟩ := x_gE hf
        refine x_ald C hw h_15 q_16 dX7_workOut_31 ?_
        refine lv_icmp_ge (tgt := 168) hx hb dX7_workOut_32 (by decide) (fun q_17 => ?_) (fun q_17 => ?_)
        · have hf := x_iP hf q_17
          exact hk168_5 _ _ _ _ _ (lv_sub hl [0, 3] rfl) hw hf
        · have hf := x_iN hf q_17
          refine lv_aload_n hx hb dX7_workOut_35 rfl (lv_at hl 1 rfl) ?_
          refine fg_X7_29 C hw ha1 dX7_workOut_36 ?_
          have h_18 : x_is 0 (xr 0 a1 0) 12 := x_tr ha1 (by decide) (by decide) rfl (by decide)
          refine lv_iload hx hb dX7_workOut_39 (lv_at hl 4 rfl) ?_
          obtain ⟨q_19, hf⟩ := x_gE hf
          refine x_ald C hw h_18 q_19 dX7_workOut_41 ?_
          refine lv_topi (fun x6_20 ex6_20 => ?_)
          have hf := x_lE ex6_20 hf
          refine lv_istore (lv' := [(6, .int x6_20), (0, .ref (g.2.2.1 k0)), (1, .ref (g.2.2.1 a1)), (2, .int a2), (3, .int x3_10), (5, .int x5_11)]) hx hb dX7_workOut_42 hl (by decide) rfl (fun ls hl => ?_)
          refine lv_iload hx hb dX7_workOut_44 (lv_at hl 0 rfl) ?_
          obtain ⟨k162_22, ek162_22, hf⟩ := x_jE hf
          have hk162_22 : ∀ (H : Heap) (locs : List Loc) (M_23 : xM) (x3_21 : Int32) (ls : Array Slot) , lv_has ls 7 [(0, .ref (g.2.2.1 k0)), (1, .ref (g.2.2.1 a1)), (2, .int a2), (5, .int x5_11), (3, .int x3_21)] → x_w g 0 s H locs M_23 → k162_22 M_23 x3_21 = some (r, M') → W p l e (x_rm 2 42) s m args below meth c H locs 0 0 Q (F0 m 162 ls []) := by
            intro H locs M_23 x3_21 ls  hl hw hf
            rw [ek162_22] at hf
            obtain ⟨x5_24, ex5_24⟩ : ∃ z : Int32, z = (x5_11 + (1 : Int32)) := ⟨_, rfl⟩
            have hf := x_lE ex5_24 hf
            refine lv_iinc (v := x5_24) (lv' := [(5, .int x5_24), (0, .ref (g.2.2.1 k0)), (1, .ref (g.2.2.1 a1)), (2, .int a2), (3, .int x3_21)]) hx hb dX7_workOut_162 hl (k := 3) rfl (by rw [ex5_24]; rfl) (by decide) rfl (fun ls hl => ?_)
            refine lv_goto (tgt := 24) hx hb dX7_workOut_165 (by decide) ?_
            exact ih_14 _ _ _ _ _ _ (lv_sub hl [1, 2, 3, 4, 0] rfl) hw hf
          obtain ⟨k58_25, ek58_25, hf⟩ := x_jE hf
          have hk58_25 : ∀ (H : Heap) (locs : List Loc) (M_26 : xM)  (ls : Array Slot) , lv_has ls 7 [(6, .int x6_20), (0, .ref (g.2.2.1 k0)), (1, .ref (g.2.2.1 a1)), (2, .int a2), (3, .int x3_10), (5, .int x5_11)] → x_w g 0 s H locs M_26 → k58_25 M_26 = some (r, M') → W p l e (x_rm 2 42) s m args below meth c H locs 0 0 Q (F0 m 58 ls []) := by
            intro H locs M_26  ls  hl hw hf
            rw [ek58_25] at hf
            obtain ⟨x3_27, ex3_27⟩ : ∃ z : Int32, z = (x3_10 + (1 : Int32)) := ⟨_, rfl⟩
            have hf := x_lE ex3_27 hf
            refine lv_iinc (v := x3_27) (lv' := [(3, .int x3_27), (6, .int x6_20), (0, .ref (g.2.2.1 k0)), (1, .ref (g.2.2.1 a1)), (2, .int a2), (5, .int x5_11)]) hx hb dX7_workOut_58 hl (k := 4) rfl (by rw [ex3_27]; rfl) (by decide) rfl (fun ls hl => ?_)
            refine lv_aload_n hx hb dX7_workOut_61 rfl (lv_at hl 2 rfl) ?_
            refine fg_X7_15 C hw h0 dX7_workOut_62 ?_
            have h_28 : x_is 0 (xr 0 k0 1) 12 := x_tr h0 (by decide) (by decide) rfl (by decide)
            refine lv_iload_n hx hb dX7_workOut_65 rfl (lv_at hl 0 rfl) ?_
            refine lv_iload hx hb dX7_workOut_66 (lv_at hl 1 rfl) ?_
            obtain ⟨k87_30, ek87_30, hf⟩ := x_jE hf
            have hk87_30 : ∀ (H : Heap) (locs : List Loc) (M_31 : xM) (z_29 : Int32) (ls : Array Slot) , lv_has ls 7 [(3, .int x3_27), (0, .ref (g.2.2.1 k0)), (1, .ref (g.2.2.1 a1)), (2, .int a2), (5, .int x5_11)] → x_w g 0 s H locs M_31 → k87_30 M_31 z_29 = some (r, M') → W p l e (x_rm 2 42) s m args below meth c H locs 0 0 Q (F0 m 87 ls [.int z_29, .int x3_27, .ref (g.2.2.1 (xr 0 k0 1))]) := by
              intro H locs M_31 z_29 ls  hl hw hf
              rw [ek87_30] at hf
              obtain ⟨q_32, hf⟩ := x_gE hf
              refine x_ast C hw h_28 q_32 dX7_workOut_87 (fun H locs hw => ?_)
              obtain ⟨M_33, eM_33⟩ : ∃ z, z = (x_up M_31 (xr 0 k0 1) x3_27.toNatClampNeg z_29) := ⟨_, rfl⟩
              rw [← eM_33] at hw
              have hf := x_lE eM_33 hf
              refine lv_goto (tgt := 162) hx hb dX7_workOut_88 (by decide) ?_
              exact hk162_22 _ _ _ _ _ (lv_sub hl [1, 2, 3, 4, 0] rfl) hw hf
            refine lv_if_lt (tgt := 76) hx hb dX7_workOut_68 (by decide) (fun q_34 => ?_) (fun q_34 => ?_)
            · have hf := x_iP hf q_34
              refine lv_aload_n hx hb dX7_workOut_76 rfl (lv_at hl 2 rfl) ?_
              refine fg_X7_9 C hw h0 dX7_workOut_77 ?_
              have h_35 : x_is 0 (xr 0 k0 0) 12 := x_tr h0 (by decide) (by decide) rfl (by decide)
              refine lv_iload hx hb dX7_workOut_80 (lv_at hl 1 rfl) ?_
              refine lv_ineg hx hb dX7_workOut_82 ?_
              refine lv_bipush (v := (97 : Int32)) hx hb dX7_workOut_83 (by decide) ?_
              refine lv_isub hx hb dX7_workOut_85 ?_
              obtain ⟨q_36, hf⟩ := x_gE hf
              refine x_ald C hw h_35 q_36 dX7_workOut_86 ?_
              exact hk87_30 _ _ _ _ _ (lv_sub hl [0, 2, 3, 4, 5] rfl) hw hf
            · have hf := x_iN hf q_34
              refine lv_iload hx hb dX7_workOut_71 (lv_at hl 1 rfl) ?_
              refine lv_goto (tgt := 87) hx hb dX7_workOut_73 (by decide) ?_
              exact hk87_30 _ _ _ _ _ (lv_sub hl [0, 2, 3, 4, 5] rfl) hw hf
          refine lv_if_ge (tgt := 58) hx hb dX7_workOut_46 (by decide) (fun q_37 => ?_) (fun q_37 => ?_)
          · have hf := x_iP hf q_37
            exact hk58_25 _ _ _ _ (lv_sub hl [0, 1, 2, 3, 4, 5] rfl) hw hf
          · have hf := x_iN hf q_37
            refine lv_iload hx hb dX7_workOut_49 (lv_at hl 0 rfl) ?_
            refine lv_ineg hx hb dX7_workOut_51 ?_
            obtain ⟨tv_40, tM_38, c_39, hf⟩ := x_bE hf
            refine x_sI C hw hl.1 [.int (-x6_20)] [] (mX9_isLetter l g c_39) lk_X7_18 (by decide) rfl (Nat.le_of_ble_eq_true rfl) ⟨Nat.zero_le _, Nat.zero_le _⟩ dX7_workOut_52 (fun v_40 M_38 H locs hN hw => ?_)
            obtain ⟨rfl, rfl⟩ := hN
            refine lv_if_eq (tgt := 91) hx hb dX7_workOut_55 (by decide) (fun q_41 => ?_) (fun q_41 => ?_)
            · have hf := x_iP hf q_41
              refine lv_iload hx hb dX7_workOut_91 (lv_at hl 0 rfl) ?_
              refine lv_bipush (v := (-33 : Int32)) hx hb dX7_workOut_93 (by decide) ?_
              obtain ⟨k128_42, ek128_42, hf⟩ := x_jE hf
              have hk128_42 : ∀ (H : Heap) (locs : List Loc) (M_43 : xM)  (ls : Array Slot) , lv_has ls 7 [(6, .int x6_20), (0, .ref (g.2.2.1 k0)), (1, .ref (g.2.2.1 a1)), (2, .int a2), (3, .int x3_10), (5, .int x5_11)] → x_w g 0 s H locs M_43 → k128_42 M_43 = some (r, M') → W p l e (x_rm 2 42) s m args below meth c H locs 0 0 Q (F0 m 128 ls []) := by
                intro H locs M_43  ls  hl hw hf
                rw [ek128_42] at hf
                refine lv_iload_n hx hb dX7_workOut_128 rfl (lv_at hl 4 rfl) ?_
                refine lv_iconst (v := (1 : Int32)) hx hb dX7_workOut_129 (by decide) ?_
                refine lv_icmp_lt (tgt := 162) hx hb dX7_workOut_130 (by decide) (fun q_44 => ?_) (fun q_44 => ?_)
                · have hf := x_iP hf q_44
                  exact hk162_22 _ _ _ _ _ (lv_sub hl [1, 2, 3, 5, 4] rfl) hw hf
                · have hf := x_iN hf q_44
                  obtain ⟨x3_45, ex3_45⟩ : ∃ z : Int32, z = (x3_10 + (-1 : Int32)) := ⟨_, rfl⟩
                  have hf := x_lE ex3_45 hf
                  refine lv_iinc (v := x3_45) (lv' := [(3, .int x3_45), (6, .int x6_20), (0, .ref (g.2.2.1 k0)), (1, .ref (g.2.2.1 a1)), (2, .int a2), (5, .int x5_11)]) hx hb dX7_workOut_133 hl (k := 4) rfl (by rw [ex3_45]; rfl) (by decide) rfl (fun ls hl => ?_)
                  refine lv_aload_n hx hb dX7_workOut_136 rfl (lv_at hl 2 rfl) ?_
                  refine fg_X7_15 C hw h0 dX7_workOut_137 ?_
                  have h_46 : x_is 0 (xr 0 k0 1) 12 := x_tr h0 (by decide) (by decide) rfl (by decide)
                  refine lv_iload_n hx hb dX7_workOut_140 rfl (lv_at hl 0 rfl) ?_
                  refine lv_iload hx hb dX7_workOut_141 (lv_at hl 1 rfl) ?_
                  refine lv_ineg hx hb dX7_workOut_143 ?_
                  refine lv_aload_n hx hb dX7_workOut_144 rfl (lv_at hl 2 rfl) ?_
                  refine fg_X7_15 C hw h0 dX7_workOut_145 ?_
                  refine lv_iload_n hx hb dX7_workOut_148 rfl (lv_at hl 0 rfl) ?_
                  obtain ⟨q_47, hf⟩ := x_gE hf
                  refine x_ald C hw h_46 q_47 dX7_workOut_149 ?_
                  refine lv_aload_n hx hb dX7_workOut_150 rfl (lv_at hl 2 rfl) ?_
                  refine fg_X7_15 C hw h0 dX7_workOut_151 ?_
                  refine lv_iload_n hx hb dX7_workOut_154 rfl (lv_at hl 0 rfl) ?_
                  refine lv_iconst (v := (1 : Int32)) hx hb dX7_workOut_155 (by decide) ?_
                  refine lv_iadd hx hb dX7_workOut_156 ?_
                  obtain ⟨q_48, hf⟩ := x_gE hf
                  refine x_ald C hw h_46 q_48 dX7_workOut_157 ?_
                  obtain ⟨tv_51, tM_49, c_50, hf⟩ := x_bE hf
                  refine x_sI C hw hl.1 [.int (-x6_20), .int (M_43 (xr 0 k0 1) x3_45.toNatClampNeg), .int (M_43 (xr 0 k0 1) (x3_45 + (1 : Int32)).toNatClampNeg)] [.int x3_45, .ref (g.2.2.1 (xr 0 k0 1))] (mX7_join l g c_50) lk_X7_36 (by decide) rfl (Nat.le_of_ble_eq_true rfl) ⟨Nat.zero_le _, Nat.zero_le _⟩ dX7_workOut_158 (fun v_51 M_49 H locs hN hw => ?_)
                  obtain ⟨rfl, rfl⟩ := hN
                  obtain ⟨q_52, hf⟩ := x_gE hf
                  refine x_ast C hw h_46 q_52 dX7_workOut_161 (fun H locs hw => ?_)
                  obtain ⟨M_53, eM_53⟩ : ∃ z, z = (x_up M_49 (xr 0 k0 1) x3_45.toNatClampNeg v_51) := ⟨_, rfl⟩
                  rw [← eM_53] at hw
                  have hf := x_lE eM_53 hf
                  exact hk162_22 _ _ _ _ _ (lv_sub hl [2, 3, 4, 5, 0] rfl) hw hf
              refine lv_icmp_ne (tgt := 128) hx hb dX7_workOut_95 (by decide) (fun q_54 => ?_) (fun q_54 => ?_)
              · have hf := x_iN hf q_54
                exact hk128_42 _ _ _ _ (lv_sub hl [0, 1, 2, 3, 4, 5] rfl) hw hf
              · have hf := x_iP hf q_54
                refine lv_iload_n hx hb dX7_workOut_98 rfl (lv_at hl 4 rfl) ?_
                refine lv_if_lt (tgt := 128) hx hb dX7_workOut_99 (by decide) (fun q_55 => ?_) (fun q_55 => ?_)
                · have hf := x_iP hf q_55
                  exact hk128_42 _ _ _ _ (lv_sub hl [0, 1, 2, 3, 4, 5] rfl) hw hf
                · have hf := x_iN hf q_55
                  refine lv_aload_n hx hb dX7_workOut_102 rfl (lv_at hl 1 rfl) ?_
                  refine fg_X7_15 C hw h0 dX7_workOut_103 ?_
                  have h_56 : x_is 0 (xr 0 k0 1) 12 := x_tr h0 (by decide) (by decide) rfl (by decide)
                  refine lv_iload_n hx hb dX7_workOut_106 rfl (lv_at hl 4 rfl) ?_
                  refine lv_aload_n hx hb dX7_workOut_107 rfl (lv_at hl 1 rfl) ?_
                  refine fg_X7_15 C hw h0 dX7_workOut_108 ?_
                  refine lv_iload_n hx hb dX7_workOut_111 rfl (lv_at hl 4 rfl) ?_
                  obtain ⟨q_57, hf⟩ := x_gE hf
                  refine x_ald C hw h_56 q_57 dX7_workOut_112 ?_
                  obtain ⟨k121_59, ek121_59, hf⟩ := x_jE hf
                  have hk121_59 : ∀ (H : Heap) (locs : List Loc) (M_60 : xM) (z_58 : Int32) (ls : Array Slot) , lv_has ls 7 [(0, .ref (g.2.2.1 k0)), (1, .ref (g.2.2.1 a1)), (2, .int a2), (3, .int x3_10), (5, .int x5_11)] → x_w g 0 s H locs M_60 → k121_59 M_60 z_58 = some (r, M') → W p l e (x_rm 2 42) s m args below meth c H locs 0 0 Q (F0 m 121 ls [.int z_58, .int x3_10, .ref (g.2.2.1 (xr 0 k0 1))]) := by
                    intro H locs M_60 z_58 ls  hl hw hf
                    rw [ek121_59] at hf
                    obtain ⟨tv_63, tM_61, c_62, hf⟩ := x_bE hf
                    refine x_nI C hw hl.1 [.int z_58] [.int x3_10, .ref (g.2.2.1 (xr 0 k0 1))] (mX10_oneIf l g c_62) lk_X7_32 (by decide) rfl (Nat.le_of_ble_eq_true rfl) ⟨Nat.zero_le _, Nat.zero_le _⟩ dX7_workOut_121 (fun v_63 M_61 H locs hN hw => ?_)
                    obtain ⟨rfl, rfl⟩ := hN
                    obtain ⟨q_64, hf⟩ := x_gE hf
                    refine x_ast C hw h_56 q_64 dX7_workOut_124 (fun H locs hw => ?_)
                    obtain ⟨M_65, eM_65⟩ : ∃ z, z = (x_up M_61 (xr 0 k0 1) x3_10.toNatClampNeg v_63) := ⟨_, rfl⟩
                    rw [← eM_65] at hw
                    have hf := x_lE eM_65 hf
                    refine lv_goto (tgt := 162) hx hb dX7_workOut_125 (by decide) ?_
                    exact hk162_22 _ _ _ _ _ (lv_sub hl [0, 1, 2, 4, 3] rfl) hw hf
                  refine lv_if_ne (tgt := 120) hx hb dX7_workOut_113 (by decide) (fun q_66 => ?_) (fun q_66 => ?_)
                  · have hf := x_iN hf q_66
                    refine lv_iconst (v := (0 : Int32)) hx hb dX7_workOut_120 (by decide) ?_
                    exact hk121_59 _ _ _ _ _ (lv_sub hl [1, 2, 3, 4, 5] rfl) hw hf
                  · have hf := x_iP hf q_66
                    refine lv_iconst (v := (1 : Int32)) hx hb dX7_workOut_116 (by decide) ?_
                    refine lv_goto (tgt := 121) hx hb dX7_workOut_117 (by decide) ?_
                    exact hk121_59 _ _ _ _ _ (lv_sub hl [1, 2, 3, 4, 5] rfl) hw hf
            · have hf := x_iN hf q_41
              exact hk58_25 _ _ _ _ (lv_sub hl [0, 1, 2, 3, 4, 5] rfl) hw hf
    exact hL_67 _ _ _ _ _ _ _ (lv_sub hl [3, 4, 5, 2, 0] rfl) hw hf
  refine lv_if_ne (tgt := 10) hx hb dX7_workOut_3 (by decide) (fun q_68 => ?_) (fun q_68 => ?_)
  · have hf := x_iN hf q_68
    refine lv_aload_n hx hb dX7_workOut_10 rfl (lv_at hl 2 rfl) ?_
    refine fg_X7_24 C hw ha1 dX7_workOut_11 ?_
    have h_69 : x_is 0 (xr 0 a1 1) 12 := x_tr ha1 (by decide) (by decide) rfl (by decide)
    refine lv_iload_n hx hb dX7_workOut_14 rfl (lv_at hl 3 rfl) ?_
    refine lv_iconst (v := (1 : Int32)) hx hb dX7_workOut_15 (by decide) ?_
    refine lv_isub hx hb dX7_workOut_16 ?_
    obtain ⟨q_70, hf⟩ := x_gE hf
    refine x_ald C hw h_69 q_70 dX7_workOut_17 ?_
    exact hk18_2 _ _ _ _ _ (lv_sub hl [0, 1, 2, 3] rfl) hw hf
  · have hf := x_iP hf q_68
    refine lv_iconst (v := (0 : Int32)) hx hb dX7_workOut_6 (by decide) ?_
    refine lv_goto (tgt := 18) hx hb dX7_workOut_7 (by decide) ?_
    exact hk18_2 _ _ _ _ _ (lv_sub hl [0, 1, 2, 3] rfl) hw hf
def fX8_become_L135 (k0 : Nat) (a1 : Nat) (k164_12 : xM → Option (xM)) : Nat → xM → Int32 → Option (xM)
  | 0, _, _ => none
  | n_28 + 1, M_27, x2_26 => if (M_27 k0 4) ≤ x2_26 then (k164_12 M_27) else (x_g x2_26 (xn 0 (xr 0 k0 8)) (x_g x2_26 (xn 0 (xr 0 a1 8)) (x_v (fX2_become M_27 (xr 0 (xr 0 k0 8) x2_26.toNatClampNeg) (xr 0 (xr 0 a1 8) x2_26.toNatClampNeg)) fun M_37 => x_l (x2_26 + (1 : Int32)) fun x2_39 => fX8_become_L135 k0 a1 k164_12 n_28 M_37 x2_39)))
def fX8_become_L104 (k0 : Nat) (a1 : Nat) (k133_10 : xM → Option (xM)) : Nat → xM → Int32 → Option (xM)
  | 0, _, _ => none
  | n_43 + 1, M_42, x2_41 => if (M_42 k0 3) ≤ x2_41 then (k133_10 M_42) else (x_g x2_41 (xn 0 (xr 0 k0 7)) (x_g x2_41 (xn 0 (xr 0 a1 7)) (x_v (fX0_become M_42 (xr 0 (xr 0 k0 7) x2_41.toNatClampNeg) (xr 0 (xr 0 a1 7) x2_41.toNatClampNeg)) fun M_52 => x_l (x2_41 + (1 : Int32)) fun x2_54 => fX8_become_L104 k0 a1 k133_10 n_43 M_52 x2_54)))
def fX8_become_L73 (k0 : Nat) (a1 : Nat) (k102_8 : xM → Option (xM)) : Nat → xM → Int32 → Option (xM)
  | 0, _, _ => none
  | n_58 + 1, M_57, x2_56 => if (M_57 k0 2) ≤ x2_56 then (k102_8 M_57) else (x_g x2_56 (xn 0 (xr 0 k0 6)) (x_g x2_56 (xn 0 (xr 0 a1 6)) (x_v (fX1_become M_57 (xr 0 (xr 0 k0 6) x2_56.toNatClampNeg) (xr 0 (xr 0 a1 6) x2_56.toNatClampNeg)) fun M_67 => x_l (x2_56 + (1 : Int32)) fun x2_69 => fX8_become_L73 k0 a1 k102_8 n_58 M_67 x2_69)))
def fX8_become_L42 (k0 : Nat) (a1 : Nat) (k71_6 : xM → Option (xM)) : Nat → xM → Int32 → Option (xM)
  | 0, _, _ => none
  | n_73 + 1, M_72, x2_71 => if (M_72 k0 1) ≤ x2_71 then (k71_6 M_72) else (x_g x2_71 (xn 0 (xr 0 k0 5)) (x_g x2_71 (xn 0 (xr 0 a1 5)) (x_v (fX4_become M_72 (xr 0 (xr 0 k0 5) x2_71.toNatClampNeg) (xr 0 (xr 0 a1 5) x2_71.toNatClampNeg)) fun M_82 => x_l (x2_71 + (1 : Int32)) fun x2_84 => fX8_become_L42 k0 a1 k71_6 n_73 M_82 x2_84)))
def fX8_become (M : xM) (k0 : Nat) (a1 : Nat) : Option (xM) := x_l (x_up M k0 0 (M a1 0)) fun M_1 => x_l (x_up M_1 k0 1 (M_1 a1 1)) fun M_2 => x_l (x_up M_2 k0 2 (M_2 a1 2)) fun M_3 => x_l (x_up M_3 k0 3 (M_3 a1 3)) fun M_4 => x_l (x_up M_4 k0 4 (M_4 a1 4)) fun M_5 => x_l (fun (M_7 : xM) => x_l (fun (M_9 : xM) => x_l (fun (M_11 : xM) => x_l (fun (M_13 : xM) => x_cp (0 : Int32) (0 : Int32) (16 : Int32) (xn 0 (xr 0 a1 9)) (xn 0 (xr 0 k0 9)) (x_l (x_mv M_13 (xr 0 a1 9) (xr 0 k0 9) (0 : Int32).toNatClampNeg (0 : Int32).toNatClampNeg (16 : Int32).toNatClampNeg) fun M_17 => x_cp (0 : Int32) (0 : Int32) (4 : Int32) (xn 0 (xr 0 a1 10)) (xn 0 (xr 0 k0 10)) (x_l (x_mv M_17 (xr 0 a1 10) (xr 0 k0 10) (0 : Int32).toNatClampNeg (0 : Int32).toNatClampNeg (4 : Int32).toNatClampNeg) fun M_21 => x_v (fX3_become M_21 (xr 0 k0 11) (xr 0 a1 11)) fun M_24 => some M_24))) fun k164_12 => fX8_become_L135 k0 a1 k164_12 x_FU M_11 (0 : Int32)) fun k133_10 => fX8_become_L104 k0 a1 k133_10 x_FU M_9 (0 : Int32)) fun k102_8 => fX8_become_L73 k0 a1 k102_8 x_FU M_7 (0 : Int32)) fun k71_6 => fX8_become_L42 k0 a1 k71_6 x_FU M_5 (0 : Int32)
set_option maxRecDepth 100000 in
set_option maxHeartbeats 4000000 in
theorem mX8_become (l : Launch) (g : xG) {k0 : Nat} {a1 : Nat} {M' : xM} (h0 : x_is 0 k0 8) (ha1 : x_is 0 a1 8) {M : xM} (hf : fX8_become M k0 a1 = some M') : x_cV l g 0 yX8_become cX8_become 3 2 81 [.ref (g.2.2.1 k0), .ref (g.2.2.1 a1)] M (fun N => N = M') := by
  refine x_stV RX8 (by decide) rfl (Nat.le_of_ble_eq_true rfl) ?_
  intro p e s m args below meth c Q ls C hw ret hl
  obtain ⟨hx, hb, hml, hown, hB, -⟩ := id C
  have hl : lv_has ls 3 [(0, .ref (g.2.2.1 k0)), (1, .ref (g.2.2.1 a1))] := hl
  unfold fX8_become at hf
  refine lv_aload_n hx hb dX8_become_0 rfl (lv_at hl 0 rfl) ?_
  refine lv_aload_n hx hb dX8_become_1 rfl (lv_at hl 1 rfl) ?_
  refine fg_X8_9 C hw ha1 dX8_become_2 ?_
  refine fp_X8_9 C hw h0 dX8_become_5 (fun H locs hw => ?_)
  obtain ⟨M_1, eM_1⟩ : ∃ z, z = (x_up M k0 0 (M a1 0)) := ⟨_, rfl⟩
  rw [← eM_1] at hw
  have hf := x_lE eM_1 hf
  refine lv_aload_n hx hb dX8_become_8 rfl (lv_at hl 0 rfl) ?_
  refine lv_aload_n hx hb dX8_become_9 rfl (lv_at hl 1 rfl) ?_
  refine fg_X8_15 C hw ha1 dX8_become_10 ?_
  refine fp_X8_15 C hw h0 dX8_become_13 (fun H locs hw => ?_)
  obtain ⟨M_2, eM_2⟩ : ∃ z, z = (x_up M_1 k0 1 (M_1 a1 1)) := ⟨_, rfl⟩
  rw [← eM_2] at hw
  have hf := x_lE eM_2 hf
  refine lv_aload_n hx hb dX8_become_16 rfl (lv_at hl 0 rfl) ?_
  refine lv_aload_n hx hb dX8_become_17 rfl (lv_at hl 1 rfl) ?_
  refine fg_X8_18 C hw ha1 dX8_become_18 ?_
  refine fp_X8_18 C hw h0 dX8_become_21 (fun H locs hw => ?_)
  obtain ⟨M_3, eM_3⟩ : ∃ z, z = (x_up M_2 k0 2 (M_2 a1 2)) := ⟨_, rfl⟩
  rw [← eM_3] at hw
  have hf := x_lE eM_3 hf
  refine lv_aload_n hx hb dX8_become_24 rfl (lv_at hl 0 rfl) ?_
  refine lv_aload_n hx hb dX8_become_25 rfl (lv_at hl 1 rfl) ?_
  refine fg_X8_21 C hw ha1 dX8_become_26 ?_
  refine fp_X8_21 C hw h0 dX8_become_29 (fun H locs hw => ?_)
  obtain ⟨M_4, eM_4⟩ : ∃ z, z = (x_up M_3 k0 3 (M_3 a1 3)) := ⟨_, rfl⟩
  rw [← eM_4] at hw
  have hf := x_lE eM_4 hf
  refine lv_aload_n hx hb dX8_become_32 rfl (lv_at hl 0 rfl) ?_
  refine lv_aload_n hx hb dX8_become_33 rfl (lv_at hl 1 rfl) ?_
  refine fg_X8_24 C hw ha1 dX8_become_34 ?_
  refine fp_X8_24 C hw h0 dX8_become_37 (fun H locs hw => ?_)
  obtain ⟨M_5, eM_5⟩ : ∃ z, z = (x_up M_4 k0 4 (M_4 a1 4)) := ⟨_, rfl⟩
  rw [← eM_5] at hw
  have hf := x_lE eM_5 hf
  refine lv_iconst (v := (0 : Int32)) hx hb dX8_become_40 (by decide) ?_
  refine lv_istore_n (lv' := [(2, .int (0 : Int32)), (0, .ref (g.2.2.1 k0)), (1, .ref (g.2.2.1 a1))]) hx hb dX8_become_41 rfl hl (by decide) rfl (fun ls hl => ?_)
  obtain ⟨k71_6, ek71_6, hf⟩ := x_jE hf
  have hk71_6 : ∀ (H : Heap) (locs : List Loc) (M_7 : xM)  (ls : Array Slot) , lv_has ls 3 [(0, .ref (g.2.2.1 k0)), (1, .ref (g.2.2.1 a1))] → x_w g 0 s H locs M_7 → k71_6 M_7 = some M' → W p l e (x_rm 2 81) s m args below meth c H locs 0 0 Q (F0 m 71 ls []) := by
    intro H locs M_7  ls  hl hw hf
    rw [ek71_6] at hf
    refine lv_iconst (v := (0 : Int32)) hx hb dX8_become_71 (by decide) ?_
    refine lv_istore_n (lv' := [(2, .int (0 : Int32)), (0, .ref (g.2.2.1 k0)), (1, .ref (g.2.2.1 a1))]) hx hb dX8_become_72 rfl hl (by decide) rfl (fun ls hl => ?_)
    obtain ⟨k102_8, ek102_8, hf⟩ := x_jE hf
    have hk102_8 : ∀ (H : Heap) (locs : List Loc) (M_9 : xM)  (ls : Array Slot) , lv_has ls 3 [(0, .ref (g.2.2.1 k0)), (1, .ref (g.2.2.1 a1))] → x_w g 0 s H locs M_9 → k102_8 M_9 = some M' → W p l e (x_rm 2 81) s m args below meth c H locs 0 0 Q (F0 m 102 ls []) := by
      intro H locs M_9  ls  hl hw hf
      rw [ek102_8] at hf
      refine lv_iconst (v := (0 : Int32)) hx hb dX8_become_102 (by decide) ?_
      refine lv_istore_n (lv' := [(2, .int (0 : Int32)), (0, .ref (g.2.2.1 k0)), (1, .ref (g.2.2.1 a1))]) hx hb dX8_become_103 rfl hl (by decide) rfl (fun ls hl => ?_)
      obtain ⟨k133_10, ek133_10, hf⟩ := x_jE hf
      have hk133_10 : ∀ (H : Heap) (locs : List Loc) (M_11 : xM)  (ls : Array Slot) , lv_has ls 3 [(0, .ref (g.2.2.1 k0)), (1, .ref (g.2.2.1 a1))] → x_w g 0 s H locs M_11 → k133_10 M_11 = some M' → W p l e (x_rm 2 81) s m args below meth c H locs 0 0 Q (F0 m 133 ls []) := by
        intro H locs M_11  ls  hl hw hf
        rw [ek133_10] at hf
        refine lv_iconst (v := (0 : Int32)) hx hb dX8_become_133 (by decide) ?_
        refine lv_istore_n (lv' := [(2, .int (0 : Int32)), (0, .ref (g.2.2.1 k0)), (1, .ref (g.2.2.1 a1))]) hx hb dX8_become_134 rfl hl (by decide) rfl (fun ls hl => ?_)
        obtain ⟨k164_12, ek164_12, hf⟩ := x_jE hf
        have hk164_12 : ∀ (H : Heap) (locs : List Loc) (M_13 : xM)  (ls : Array Slot) , lv_has ls 3 [(0, .ref (g.2.2.1 k0)), (1, .ref (g.2.2.1 a1))] → x_w g 0 s H locs M_13 → k164_12 M_13 = some M' → W p l e (x_rm 2 81) s m args below meth c H locs 0 0 Q (F0 m 164 ls []) := by
          intro H locs M_13  ls  hl hw hf
          rw [ek164_12] at hf
          refine lv_aload_n hx hb dX8_become_164 rfl (lv_at hl 1 rfl) ?_
          refine fg_X8_60 C hw ha1 dX8_become_165 ?_
          have h_14 : x_is 0 (xr 0 a1 9) 12 := x_tr ha1 (by decide) (by decide) rfl (by decide)
          refine lv_iconst (v := (0 : Int32)) hx hb dX8_become_168 (by decide) ?_
          refine lv_aload_n hx hb dX8_become_169 rfl (lv_at hl 0 rfl) ?_
          refine fg_X8_60 C hw h0 dX8_become_170 ?_
          have h_15 : x_is 0 (xr 0 k0 9) 12 := x_tr h0 (by decide) (by decide) rfl (by decide)
          refine lv_iconst (v := (0 : Int32)) hx hb dX8_become_173 (by decide) ?_
          refine lv_bipush (v := (16 : Int32)) hx hb dX8_become_174 (by decide) ?_
          obtain ⟨q_16, hf⟩ := x_cpE hf
          refine cpy_X8_97 C hw hl.1 h_14 h_15 q_16 (Nat.le_of_ble_eq_true rfl) (Nat.le_of_ble_eq_true rfl) dX8_become_176 (fun H locs hw => ?_)
          obtain ⟨M_17, eM_17⟩ : ∃ z, z = (x_mv M_13 (xr 0 a1 9) (xr 0 k0 9) (0 : Int32).toNatClampNeg (0 : Int32).toNatClampNeg (16 : Int32).toNatClampNeg) := ⟨_, rfl⟩
          rw [← eM_17] at hw
          have hf := x_lE eM_17 hf
          refine lv_aload_n hx hb dX8_become_179 rfl (lv_at hl 1 rfl) ?_
          refine fg_X8_63 C hw ha1 dX8_become_180 ?_
          have h_18 : x_is 0 (xr 0 a1 10) 12 := x_tr ha1 (by decide) (by decide) rfl (by decide)
          refine lv_iconst (v := (0 : Int32)) hx hb dX8_become_183 (by decide) ?_
          refine lv_aload_n hx hb dX8_become_184 rfl (lv_at hl 0 rfl) ?_
          refine fg_X8_63 C hw h0 dX8_become_185 ?_
          have h_19 : x_is 0 (xr 0 k0 10) 12 := x_tr h0 (by decide) (by decide) rfl (by decide)
          refine lv_iconst (v := (0 : Int32)) hx hb dX8_become_188 (by decide) ?_
          refine lv_iconst (v := (4 : Int32)) hx hb dX8_become_189 (by decide) ?_
          obtain ⟨q_20, hf⟩ := x_cpE hf
          refine cpy_X8_97 C hw hl.1 h_18 h_19 q_20 (Nat.le_of_ble_eq_true rfl) (Nat.le_of_ble_eq_true rfl) dX8_become_190 (fun H locs hw => ?_)
          obtain ⟨M_21, eM_21⟩ : ∃ z, z = (x_mv M_17 (xr 0 a1 10) (xr 0 k0 10) (0 : Int32).toNatClampNeg (0 : Int32).toNatClampNeg (4 : Int32).toNatClampNeg) := ⟨_, rfl⟩
          rw [← eM_21] at hw
          have hf := x_lE eM_21 hf
          refine lv_aload_n hx hb dX8_become_193 rfl (lv_at hl 0 rfl) ?_
          refine fg_X8_69 C hw h0 dX8_become_194 ?_
          have h_22 : x_is 0 (xr 0 k0 11) 3 := x_tr h0 (by decide) (by decide) rfl (by decide)
          refine lv_aload_n hx hb dX8_become_197 rfl (lv_at hl 1 rfl) ?_
          refine fg_X8_69 C hw ha1 dX8_become_198 ?_
          have h_23 : x_is 0 (xr 0 a1 11) 3 := x_tr ha1 (by decide) (by decide) rfl (by decide)
          obtain ⟨tM_24, c_25, hf⟩ := x_vE hf
          refine x_vV C hw hl.1 [.ref (g.2.2.1 (xr 0 a1 11))] [] (mX3_become l g h_22 h_23 c_25) lk_X8_103 h_22 (by decide) rfl (by decide) rfl (Nat.le_of_ble_eq_true rfl) ⟨Nat.zero_le _, Nat.zero_le _⟩ dX8_become_201 (fun M_24 H locs hN hw => ?_)
          obtain rfl := hN
          exact ret hf dX8_become_204 hw
        have hL_40 : ∀ (n_28 : Nat) (H : Heap) (locs : List Loc) (M_27 : xM) (x2_26 : Int32) (ls : Array Slot) , lv_has ls 3 [(0, .ref (g.2.2.1 k0)), (1, .ref (g.2.2.1 a1)), (2, .int x2_26)] → x_w g 0 s H locs M_27 → fX8_become_L135 k0 a1 k164_12 n_28 M_27 x2_26 = some M' → W p l e (x_rm 2 81) s m args below meth c H locs 0 0 Q (F0 m 135 ls []) := by
          intro n_28
          induction n_28 with
          | zero =>
            intro H locs M_27 x2_26 ls  hl hw hf
            rw [fX8_become_L135] at hf
            cases hf
          | succ n_28 ih_29 =>
            intro H locs M_27 x2_26 ls  hl hw hf
            rw [fX8_become_L135] at hf
            refine lv_iload_n hx hb dX8_become_135 rfl (lv_at hl 2 rfl) ?_
            refine lv_aload_n hx hb dX8_become_136 rfl (lv_at hl 0 rfl) ?_
            refine fg_X8_24 C hw h0 dX8_become_137 ?_
            refine lv_icmp_ge (tgt := 164) hx hb dX8_become_140 (by decide) (fun q_30 => ?_) (fun q_30 => ?_)
            · have hf := x_iP hf q_30
              exact hk164_12 _ _ _ _ (lv_sub hl [0, 1] rfl) hw hf
            · have hf := x_iN hf q_30
              refine lv_aload_n hx hb dX8_become_143 rfl (lv_at hl 0 rfl) ?_
              refine fg_X8_47 C hw h0 dX8_become_144 ?_
              have h_31 : x_is 0 (xr 0 k0 8) 16 := x_tr h0 (by decide) (by decide) rfl (by decide)
              refine lv_iload_n hx hb dX8_become_147 rfl (lv_at hl 2 rfl) ?_
              obtain ⟨q_32, hf⟩ := x_gE hf
              refine x_rld (t := 4) C hw h_31 (by decide) rfl q_32 dX8_become_148 ?_
              have h_33 : x_is 0 (xr 0 (xr 0 k0 8) x2_26.toNatClampNeg) 2 := x_ta h_31 (by decide) (x_ilt q_32)
              refine lv_aload_n hx hb dX8_become_149 rfl (lv_at hl 1 rfl) ?_
              refine fg_X8_47 C hw ha1 dX8_become_150 ?_
              have h_34 : x_is 0 (xr 0 a1 8) 16 := x_tr ha1 (by decide) (by decide) rfl (by decide)
              refine lv_iload_n hx hb dX8_become_153 rfl (lv_at hl 2 rfl) ?_
              obtain ⟨q_35, hf⟩ := x_gE hf
              refine x_rld (t := 4) C hw h_34 (by decide) rfl q_35 dX8_become_154 ?_
              have h_36 : x_is 0 (xr 0 (xr 0 a1 8) x2_26.toNatClampNeg) 2 := x_ta h_34 (by decide) (x_ilt q_35)
              obtain ⟨tM_37, c_38, hf⟩ := x_vE hf
              refine x_vV C hw hl.1 [.ref (g.2.2.1 (xr 0 (xr 0 a1 8) x2_26.toNatClampNeg))] [] (mX2_become l g h_33 h_36 c_38) lk_X8_94 h_33 (by decide) rfl (by decide) rfl (Nat.le_of_ble_eq_true rfl) ⟨Nat.zero_le _, Nat.zero_le _⟩ dX8_become_155 (fun M_37 H locs hN hw => ?_)
              obtain rfl := hN
              obtain ⟨x2_39, ex2_39⟩ : ∃ z : Int32, z = (x2_26 + (1 : Int32)) := ⟨_, rfl⟩
              have hf := x_lE ex2_39 hf
              refine lv_iinc (v := x2_39) (lv' := [(2, .int x2_39), (0, .ref (g.2.2.1 k0)), (1, .ref (g.2.2.1 a1))]) hx hb dX8_become_158 hl (k := 2) rfl (by rw [ex2_39]; rfl) (by decide) rfl (fun ls hl => ?_)
              refine lv_goto (tgt := 135) hx hb dX8_become_161 (by decide) ?_
              exact ih_29 _ _ _ _ _ (lv_sub hl [1, 2, 0] rfl) hw hf
        exact hL_40 _ _ _ _ _ _ (lv_sub hl [1, 2, 0] rfl) hw hf
      have hL_55 : ∀ (n_43 : Nat) (H : Heap) (locs : List Loc) (M_42 : xM) (x2_41 : Int32) (ls : Array Slot) , lv_has ls 3 [(0, .ref (g.2.2.1 k0)), (1, .ref (g.2.2.1 a1)), (2, .int x2_41)] → x_w g 0 s H locs M_42 → fX8_become_L104 k0 a1 k133_10 n_43 M_42 x2_41 = some M' → W p l e (x_rm 2 81) s m args below meth c H locs 0 0 Q (F0 m 104 ls []) := by
        intro n_43
        induction n_43 with
        | zero =>
          intro H locs M_42 x2_41 ls  hl hw hf
          rw [fX8_become_L104] at hf
          cases hf
        | succ n_43 ih_44 =>
          intro H locs M_42 x2_41 ls  hl hw hf
          rw [fX8_become_L104] at hf
          refine lv_iload_n hx hb dX8_become_104 rfl (lv_at hl 2 rfl) ?_
          refine lv_aload_n hx hb dX8_become_105 rfl (lv_at hl 0 rfl) ?_
          refine fg_X8_21 C hw h0 dX8_become_106 ?_
          refine lv_icmp_ge (tgt := 133) hx hb dX8_become_109 (by decide) (fun q_45 => ?_) (fun q_45 => ?_)
          · have hf := x_iP hf q_45
            exact hk133_10 _ _ _ _ (lv_sub hl [0, 1] rfl) hw hf
          · have hf := x_iN hf q_45
            refine lv_aload_n hx hb dX8_become_112 rfl (lv_at hl 0 rfl) ?_
            refine fg_X8_41 C hw h0 dX8_become_113 ?_
            have h_46 : x_is 0 (xr 0 k0 7) 14 := x_tr h0 (by decide) (by decide) rfl (by decide)
            refine lv_iload_n hx hb dX8_become_116 rfl (lv_at hl 2 rfl) ?_
            obtain ⟨q_47, hf⟩ := x_gE hf
            refine x_rld (t := 2) C hw h_46 (by decide) rfl q_47 dX8_become_117 ?_
            have h_48 : x_is 0 (xr 0 (xr 0 k0 7) x2_41.toNatClampNeg) 0 := x_ta h_46 (by decide) (x_ilt q_47)
            refine lv_aload_n hx hb dX8_become_118 rfl (lv_at hl 1 rfl) ?_
            refine fg_X8_41 C hw ha1 dX8_become_119 ?_
            have h_49 : x_is 0 (xr 0 a1 7) 14 := x_tr ha1 (by decide) (by decide) rfl (by decide)
            refine lv_iload_n hx hb dX8_become_122 rfl (lv_at hl 2 rfl) ?_
            obtain ⟨q_50, hf⟩ := x_gE hf
            refine x_rld (t := 2) C hw h_49 (by decide) rfl q_50 dX8_become_123 ?_
            have h_51 : x_is 0 (xr 0 (xr 0 a1 7) x2_41.toNatClampNeg) 0 := x_ta h_49 (by decide) (x_ilt q_50)
            obtain ⟨tM_52, c_53, hf⟩ := x_vE hf
            refine x_vV C hw hl.1 [.ref (g.2.2.1 (xr 0 (xr 0 a1 7) x2_41.toNatClampNeg))] [] (mX0_become l g h_48 h_51 c_53) lk_X8_91 h_48 (by decide) rfl (by decide) rfl (Nat.le_of_ble_eq_true rfl) ⟨Nat.zero_le _, Nat.zero_le _⟩ dX8_become_124 (fun M_52 H locs hN hw => ?_)
            obtain rfl := hN
            obtain ⟨x2_54, ex2_54⟩ : ∃ z : Int32, z = (x2_41 + (1 : Int32)) := ⟨_, rfl⟩
            have hf := x_lE ex2_54 hf
            refine lv_iinc (v := x2_54) (lv' := [(2, .int x2_54), (0, .ref (g.2.2.1 k0)), (1, .ref (g.2.2.1 a1))]) hx hb dX8_become_127 hl (k := 2) rfl (by rw [ex2_54]; rfl) (by decide) rfl (fun ls hl => ?_)
            refine lv_goto (tgt := 104) hx hb dX8_become_130 (by decide) ?_
            exact ih_44 _ _ _ _ _ (lv_sub hl [1, 2, 0] rfl) hw hf
      exact hL_55 _ _ _ _ _ _ (lv_sub hl [1, 2, 0] rfl) hw hf
    have hL_70 : ∀ (n_58 : Nat) (H : Heap) (locs : List Loc) (M_57 : xM) (x2_56 : Int32) (ls : Array Slot) , lv_has ls 3 [(0, .ref (g.2.2.1 k0)), (1, .ref (g.2.2.1 a1)), (2, .int x2_56)] → x_w g 0 s H locs M_57 → fX8_become_L73 k0 a1 k102_8 n_58 M_57 x2_56 = some M' → W p l e (x_rm 2 81) s m args below meth c H locs 0 0 Q (F0 m 73 ls []) := by
      intro n_58
      induction n_58 with
      | zero =>
        intro H locs M_57 x2_56 ls  hl hw hf
        rw [fX8_become_L73] at hf
        cases hf
      | succ n_58 ih_59 =>
        intro H locs M_57 x2_56 ls  hl hw hf
        rw [fX8_become_L73] at hf
        refine lv_iload_n hx hb dX8_become_73 rfl (lv_at hl 2 rfl) ?_
        refine lv_aload_n hx hb dX8_become_74 rfl (lv_at hl 0 rfl) ?_
        refine fg_X8_18 C hw h0 dX8_become_75 ?_
        refine lv_icmp_ge (tgt := 102) hx hb dX8_become_78 (by decide) (fun q_60 => ?_) (fun q_60 => ?_)
        · have hf := x_iP hf q_60
          exact hk102_8 _ _ _ _ (lv_sub hl [0, 1] rfl) hw hf
        · have hf := x_iN hf q_60
          refine lv_aload_n hx hb dX8_become_81 rfl (lv_at hl 0 rfl) ?_
          refine fg_X8_35 C hw h0 dX8_become_82 ?_
          have h_61 : x_is 0 (xr 0 k0 6) 15 := x_tr h0 (by decide) (by decide) rfl (by decide)
          refine lv_iload_n hx hb dX8_become_85 rfl (lv_at hl 2 rfl) ?_
          obtain ⟨q_62, hf⟩ := x_gE hf
          refine x_rld (t := 3) C hw h_61 (by decide) rfl q_62 dX8_become_86 ?_
          have h_63 : x_is 0 (xr 0 (xr 0 k0 6) x2_56.toNatClampNeg) 1 := x_ta h_61 (by decide) (x_ilt q_62)
          refine lv_aload_n hx hb dX8_become_87 rfl (lv_at hl 1 rfl) ?_
          refine fg_X8_35 C hw ha1 dX8_become_88 ?_
          have h_64 : x_is 0 (xr 0 a1 6) 15 := x_tr ha1 (by decide) (by decide) rfl (by decide)
          refine lv_iload_n hx hb dX8_become_91 rfl (lv_at hl 2 rfl) ?_
          obtain ⟨q_65, hf⟩ := x_gE hf
          refine x_rld (t := 3) C hw h_64 (by decide) rfl q_65 dX8_become_92 ?_
          have h_66 : x_is 0 (xr 0 (xr 0 a1 6) x2_56.toNatClampNeg) 1 := x_ta h_64 (by decide) (x_ilt q_65)
          obtain ⟨tM_67, c_68, hf⟩ := x_vE hf
          refine x_vV C hw hl.1 [.ref (g.2.2.1 (xr 0 (xr 0 a1 6) x2_56.toNatClampNeg))] [] (mX1_become l g h_63 h_66 c_68) lk_X8_88 h_63 (by decide) rfl (by decide) rfl (Nat.le_of_ble_eq_true rfl) ⟨Nat.zero_le _, Nat.zero_le _⟩ dX8_become_93 (fun M_67 H locs hN hw => ?_)
          obtain rfl := hN
          obtain ⟨x2_69, ex2_69⟩ : ∃ z : Int32, z = (x2_56 + (1 : Int32)) := ⟨_, rfl⟩
          have hf := x_lE ex2_69 hf
          refine lv_iinc (v := x2_69) (lv' := [(2, .int x2_69), (0, .ref (g.2.2.1 k0)), (1, .ref (g.2.2.1 a1))]) hx hb dX8_become_96 hl (k := 2) rfl (by rw [ex2_69]; rfl) (by decide) rfl (fun ls hl => ?_)
          refine lv_goto (tgt := 73) hx hb dX8_become_99 (by decide) ?_
          exact ih_59 _ _ _ _ _ (lv_sub hl [1, 2, 0] rfl) hw hf
    exact hL_70 _ _ _ _ _ _ (lv_sub hl [1, 2, 0] rfl) hw hf
  have hL_85 : ∀ (n_73 : Nat) (H : Heap) (locs : List Loc) (M_72 : xM) (x2_71 : Int32) (ls : Array Slot) , lv_has ls 3 [(0, .ref (g.2.2.1 k0)), (1, .ref (g.2.2.1 a1)), (2, .int x2_71)] → x_w g 0 s H locs M_72 → fX8_become_L42 k0 a1 k71_6 n_73 M_72 x2_71 = some M' → W p l e (x_rm 2 81) s m args below meth c H locs 0 0 Q (F0 m 42 ls []) := by
    intro n_73
    induction n_73 with
    | zero =>
      intro H locs M_72 x2_71 ls  hl hw hf
      rw [fX8_become_L42] at hf
      cases hf
    | succ n_73 ih_74 =>
      intro H locs M_72 x2_71 ls  hl hw hf
      rw [fX8_become_L42] at hf
      refine lv_iload_n hx hb dX8_become_42 rfl (lv_at hl 2 rfl) ?_
      refine lv_aload_n hx hb dX8_become_43 rfl (lv_at hl 0 rfl) ?_
      refine fg_X8_15 C hw h0 dX8_become_44 ?_
      refine lv_icmp_ge (tgt := 71) hx hb dX8_become_47 (by decide) (fun q_75 => ?_) (fun q_75 => ?_)
      · have hf := x_iP hf q_75
        exact hk71_6 _ _ _ _ (lv_sub hl [0, 1] rfl) hw hf
      · have hf := x_iN hf q_75
        refine lv_aload_n hx hb dX8_become_50 rfl (lv_at hl 0 rfl) ?_
        refine fg_X8_29 C hw h0 dX8_become_51 ?_
        have h_76 : x_is 0 (xr 0 k0 5) 17 := x_tr h0 (by decide) (by decide) rfl (by decide)
        refine lv_iload_n hx hb dX8_become_54 rfl (lv_at hl 2 rfl) ?_
        obtain ⟨q_77, hf⟩ := x_gE hf
        refine x_rld (t := 5) C hw h_76 (by decide) rfl q_77 dX8_become_55 ?_
        have h_78 : x_is 0 (xr 0 (xr 0 k0 5) x2_71.toNatClampNeg) 4 := x_ta h_76 (by decide) (x_ilt q_77)
        refine lv_aload_n hx hb dX8_become_56 rfl (lv_at hl 1 rfl) ?_
        refine fg_X8_29 C hw ha1 dX8_become_57 ?_
        have h_79 : x_is 0 (xr 0 a1 5) 17 := x_tr ha1 (by decide) (by decide) rfl (by decide)
        refine lv_iload_n hx hb dX8_become_60 rfl (lv_at hl 2 rfl) ?_
        obtain ⟨q_80, hf⟩ := x_gE hf
        refine x_rld (t := 5) C hw h_79 (by decide) rfl q_80 dX8_become_61 ?_
        have h_81 : x_is 0 (xr 0 (xr 0 a1 5) x2_71.toNatClampNeg) 4 := x_ta h_79 (by decide) (x_ilt q_80)
        obtain ⟨tM_82, c_83, hf⟩ := x_vE hf
        refine x_vV C hw hl.1 [.ref (g.2.2.1 (xr 0 (xr 0 a1 5) x2_71.toNatClampNeg))] [] (mX4_become l g h_78 h_81 c_83) lk_X8_84 h_78 (by decide) rfl (by decide) rfl (Nat.le_of_ble_eq_true rfl) ⟨Nat.zero_le _, Nat.zero_le _⟩ dX8_become_62 (fun M_82 H locs hN hw => ?_)
        obtain rfl := hN
        obtain ⟨x2_84, ex2_84⟩ : ∃ z : Int32, z = (x2_71 + (1 : Int32)) := ⟨_, rfl⟩
        have hf := x_lE ex2_84 hf
        refine lv_iinc (v := x2_84) (lv' := [(2, .int x2_84), (0, .ref (g.2.2.1 k0)), (1, .ref (g.2.2.1 a1))]) hx hb dX8_become_65 hl (k := 2) rfl (by rw [ex2_84]; rfl) (by decide) rfl (fun ls hl => ?_)
        refine lv_goto (tgt := 42) hx hb dX8_become_68 (by decide) ?_
        exact ih_74 _ _ _ _ _ (lv_sub hl [1, 2, 0] rfl) hw hf
  exact hL_85 _ _ _ _ _ _ (lv_sub hl [1, 2, 0] rfl) hw hf
def fX8_hasDeed (M : xM) (k0 : Nat) (a1 : Int32) : Option (Int32 × xM) := x_b (fX10_isWithin M a1 (0 : Int32) ((M k0 3) - (1 : Int32))) fun v_3 M_1 => x_z v_3 (some (v_3, M_1))
set_option maxRecDepth 100000 in
set_option maxHeartbeats 4000000 in
theorem mX8_hasDeed (l : Launch) (g : xG) {k0 : Nat} {a1 : Int32} {r : Int32} {M' : xM} (h0 : x_is 0 k0 8) {M : xM} (hf : fX8_hasDeed M k0 a1 = some (r, M')) : x_cI l g 0 yX8_hasDeed cX8_hasDeed 2 .boolean 1 22 [.ref (g.2.2.1 k0), .int a1] M (fun v N => v = r ∧ N = M') := by
  refine x_stZ RX8 (by decide) rfl (Nat.le_of_ble_eq_true rfl) ?_
  intro p e s m args below meth c Q ls C hw ret hl
  obtain ⟨hx, hb, hml, hown, hB, -⟩ := id C
  have hl : lv_has ls 2 [(0, .ref (g.2.2.1 k0)), (1, .int a1)] := hl
  unfold fX8_hasDeed at hf
  refine lv_iload_n hx hb dX8_hasDeed_0 rfl (lv_at hl 1 rfl) ?_
  refine lv_iconst (v := (0 : Int32)) hx hb dX8_hasDeed_1 (by decide) ?_
  refine lv_aload_n hx hb dX8_hasDeed_2 rfl (lv_at hl 0 rfl) ?_
  refine fg_X8_21 C hw h0 dX8_hasDeed_3 ?_
  refine lv_iconst (v := (1 : Int32)) hx hb dX8_hasDeed_6 (by decide) ?_
  refine lv_isub hx hb dX8_hasDeed_7 ?_
  obtain ⟨tv_3, tM_1, c_2, hf⟩ := x_bE hf
  refine x_nI C hw hl.1 [.int a1, .int (0 : Int32), .int ((M k0 3) - (1 : Int32))] [] (mX10_isWithin l g c_2) lk_X8_106 (by decide) rfl (Nat.le_of_ble_eq_true rfl) ⟨Nat.zero_le _, Nat.zero_le _⟩ dX8_hasDeed_8 (fun v_3 M_1 H locs hN hw => ?_)
  obtain ⟨rfl, rfl⟩ := hN
  exact ret hf dX8_hasDeed_11 hw
def fX8_hasJudgment (M : xM) (k0 : Nat) (a1 : Int32) : Option (Int32 × xM) := x_b (fX10_isWithin M a1 (0 : Int32) ((M k0 4) - (1 : Int32))) fun v_3 M_1 => x_z v_3 (some (v_3, M_1))
set_option maxRecDepth 100000 in
set_option maxHeartbeats 4000000 in
theorem mX8_hasJudgment (l : Launch) (g : xG) {k0 : Nat} {a1 : Int32} {r : Int32} {M' : xM} (h0 : x_is 0 k0 8) {M : xM} (hf : fX8_hasJudgment M k0 a1 = some (r, M')) : x_cI l g 0 yX8_hasJudgment cX8_hasJudgment 2 .boolean 1 22 [.ref (g.2.2.1 k0), .int a1] M (fun v N => v = r ∧ N = M') := by
  refine x_stZ RX8 (by decide) rfl (Nat.le_of_ble_eq_true rfl) ?_
  intro p e s m args below meth c Q ls C hw ret hl
  obtain ⟨hx, hb, hml, hown, hB, -⟩ := id C
  have hl : lv_has ls 2 [(0, .ref (g.2.2.1 k0)), (1, .int a1)] := hl
  unfold fX8_hasJudgment at hf
  refine lv_iload_n hx hb dX8_hasJudgment_0 rfl (lv_at hl 1 rfl) ?_
  refine lv_iconst (v := (0 : Int32)) hx hb dX8_hasJudgment_1 (by decide) ?_
  refine lv_aload_n hx hb dX8_hasJudgment_2 rfl (lv_at hl 0 rfl) ?_
  refine fg_X8_24 C hw h0 dX8_hasJudgment_3 ?_
  refine lv_iconst (v := (1 : Int32)) hx hb dX8_hasJudgment_6 (by decide) ?_
  refine lv_isub hx hb dX8_hasJudgment_7 ?_
  obtain ⟨tv_3, tM_1, c_2, hf⟩ := x_bE hf
  refine x_nI C hw hl.1 [.int a1, .int (0 : Int32), .int ((M k0 4) - (1 : Int32))] [] (mX10_isWithin l g c_2) lk_X8_106 (by decide) rfl (Nat.le_of_ble_eq_true rfl) ⟨Nat.zero_le _, Nat.zero_le _⟩ dX8_hasJudgment_8 (fun v_3 M_1 H locs hN hw => ?_)
  obtain ⟨rfl, rfl⟩ := hN
  exact ret hf dX8_hasJudgment_11 hw
def fX8_hasLaw (M : xM) (k0 : Nat) : Option (Int32 × xM) := if (M (xr 0 k0 11) 3) ≤ 0 then (x_z (0 : Int32) (some ((0 : Int32), M))) else (x_z (1 : Int32) (some ((1 : Int32), M)))
set_option maxRecDepth 100000 in
set_option maxHeartbeats 4000000 in
theorem mX8_hasLaw (l : Launch) (g : xG) {k0 : Nat} {r : Int32} {M' : xM} (h0 : x_is 0 k0 8) {M : xM} (hf : fX8_hasLaw M k0 = some (r, M')) : x_cI l g 0 yX8_hasLaw cX8_hasLaw 1 .boolean 0 0 [.ref (g.2.2.1 k0)] M (fun v N => v = r ∧ N = M') := by
  refine x_stZ RX8 (by decide) rfl (Nat.le_of_ble_eq_true rfl) ?_
  intro p e s m args below meth c Q ls C hw ret hl
  obtain ⟨hx, hb, hml, hown, hB, -⟩ := id C
  have hl : lv_has ls 1 [(0, .ref (g.2.2.1 k0))] := hl
  unfold fX8_hasLaw at hf
  refine lv_aload_n hx hb dX8_hasLaw_0 rfl (lv_at hl 0 rfl) ?_
  refine fg_X8_69 C hw h0 dX8_hasLaw_1 ?_
  have h_1 : x_is 0 (xr 0 k0 11) 3 := x_tr h0 (by decide) (by decide) rfl (by decide)
  refine fg_X8_110 C hw h_1 dX8_hasLaw_4 ?_
  refine lv_if_le (tgt := 14) hx hb dX8_hasLaw_7 (by decide) (fun q_2 => ?_) (fun q_2 => ?_)
  · have hf := x_iP hf q_2
    refine lv_iconst (v := (0 : Int32)) hx hb dX8_hasLaw_14 (by decide) ?_
    exact ret hf dX8_hasLaw_15 hw
  · have hf := x_iN hf q_2
    refine lv_iconst (v := (1 : Int32)) hx hb dX8_hasLaw_10 (by decide) ?_
    refine lv_goto (tgt := 15) hx hb dX8_hasLaw_11 (by decide) ?_
    exact ret hf dX8_hasLaw_15 hw
def fX8_couples_L4 (k0 : Nat) (k33_2 : xM → Int32 → Option (Int32 × xM)) : Nat → xM → Int32 → Int32 → Option (Int32 × xM)
  | 0, _, _, _ => none
  | n_8 + 1, M_7, x1_5, x2_6 => if (M_7 k0 1) ≤ x2_6 then (k33_2 M_7 x1_5) else (x_g x2_6 (xn 0 (xr 0 k0 5)) (x_b (fX4_isCoupled M_7 (xr 0 (xr 0 k0 5) x2_6.toNatClampNeg)) fun v_16 M_14 => x_b (fX10_oneIf M_14 v_16) fun v_19 M_17 => x_l (x1_5 + v_19) fun x1_20 => x_l (x2_6 + (1 : Int32)) fun x2_21 => fX8_couples_L4 k0 k33_2 n_8 M_17 x1_20 x2_21))
def fX8_couples (M : xM) (k0 : Nat) : Option (Int32 × xM) := x_l (fun (M_3 : xM) (x1_1 : Int32) => x_d (2 : Int32) (some ((x1_1 / (2 : Int32)), M_3))) fun k33_2 => fX8_couples_L4 k0 k33_2 x_FU M (0 : Int32) (0 : Int32)
set_option maxRecDepth 100000 in
set_option maxHeartbeats 4000000 in
theorem mX8_couples (l : Launch) (g : xG) {k0 : Nat} {r : Int32} {M' : xM} (h0 : x_is 0 k0 8) {M : xM} (hf : fX8_couples M k0 = some (r, M')) : x_cI l g 0 yX8_couples cX8_couples 3 .int 1 20 [.ref (g.2.2.1 k0)] M (fun v N => v = r ∧ N = M') := by
  refine x_stI RX8 (by decide) rfl (Nat.le_of_ble_eq_true rfl) ?_
  intro p e s m args below meth c Q ls C hw ret hl
  obtain ⟨hx, hb, hml, hown, hB, -⟩ := id C
  have hl : lv_has ls 3 [(0, .ref (g.2.2.1 k0))] := hl
  unfold fX8_couples at hf
  refine lv_iconst (v := (0 : Int32)) hx hb dX8_couples_0 (by decide) ?_
  refine lv_istore_n (lv' := [(1, .int (0 : Int32)), (0, .ref (g.2.2.1 k0))]) hx hb dX8_couples_1 rfl hl (by decide) rfl (fun ls hl => ?_)
  refine lv_iconst (v := (0 : Int32)) hx hb dX8_couples_2 (by decide) ?_
  refine lv_istore_n (lv' := [(2, .int (0 : Int32)), (1, .int (0 : Int32)), (0, .ref (g.2.2.1 k0))]) hx hb dX8_couples_3 rfl hl (by decide) rfl (fun ls hl => ?_)
  obtain ⟨k33_2, ek33_2, hf⟩ := x_jE hf
  have hk33_2 : ∀ (H : Heap) (locs : List Loc) (M_3 : xM) (x1_1 : Int32) (ls : Array Slot) , lv_has ls 3 [(1, .int x1_1)] → x_w g 0 s H locs M_3 → k33_2 M_3 x1_1 = some (r, M') → W p l e (x_rm 1 20) s m args below meth c H locs 0 0 Q (F0 m 33 ls []) := by
    intro H locs M_3 x1_1 ls  hl hw hf
    rw [ek33_2] at hf
    refine lv_iload_n hx hb dX8_couples_33 rfl (lv_at hl 0 rfl) ?_
    refine lv_iconst (v := (2 : Int32)) hx hb dX8_couples_34 (by decide) ?_
    obtain ⟨q_4, hf⟩ := x_dE hf
    refine lv_idiv hx hb dX8_couples_35 q_4 ?_
    exact ret hf dX8_couples_36 hw
  have hL_22 : ∀ (n_8 : Nat) (H : Heap) (locs : List Loc) (M_7 : xM) (x1_5 : Int32) (x2_6 : Int32) (ls : Array Slot) , lv_has ls 3 [(0, .ref (g.2.2.1 k0)), (1, .int x1_5), (2, .int x2_6)] → x_w g 0 s H locs M_7 → fX8_couples_L4 k0 k33_2 n_8 M_7 x1_5 x2_6 = some (r, M') → W p l e (x_rm 1 20) s m args below meth c H locs 0 0 Q (F0 m 4 ls []) := by
    intro n_8
    induction n_8 with
    | zero =>
      intro H locs M_7 x1_5 x2_6 ls  hl hw hf
      rw [fX8_couples_L4] at hf
      cases hf
    | succ n_8 ih_9 =>
      intro H locs M_7 x1_5 x2_6 ls  hl hw hf
      rw [fX8_couples_L4] at hf
      refine lv_iload_n hx hb dX8_couples_4 rfl (lv_at hl 2 rfl) ?_
      refine lv_aload_n hx hb dX8_couples_5 rfl (lv_at hl 0 rfl) ?_
      refine fg_X8_15 C hw h0 dX8_couples_6 ?_
      refine lv_icmp_ge (tgt := 33) hx hb dX8_couples_9 (by decide) (fun q_10 => ?_) (fun q_10 => ?_)
      · have hf := x_iP hf q_10
        exact hk33_2 _ _ _ _ _ (lv_sub hl [1] rfl) hw hf
      · have hf := x_iN hf q_10
        refine lv_iload_n hx hb dX8_couples_12 rfl (lv_at hl 1 rfl) ?_
        refine lv_aload_n hx hb dX8_couples_13 rfl (lv_at hl 0 rfl) ?_
        refine fg_X8_29 C hw h0 dX8_couples_14 ?_
        have h_11 : x_is 0 (xr 0 k0 5) 17 := x_tr h0 (by decide) (by decide) rfl (by decide)
        refine lv_iload_n hx hb dX8_couples_17 rfl (lv_at hl 2 rfl) ?_
        obtain ⟨q_12, hf⟩ := x_gE hf
        refine x_rld (t := 5) C hw h_11 (by decide) rfl q_12 dX8_couples_18 ?_
        have h_13 : x_is 0 (xr 0 (xr 0 k0 5) x2_6.toNatClampNeg) 4 := x_ta h_11 (by decide) (x_ilt q_12)
        obtain ⟨tv_16, tM_14, c_15, hf⟩ := x_bE hf
        refine x_vI C hw hl.1 [] [.int x1_5] (mX4_isCoupled l g h_13 c_15) lk_X8_148 h_13 (by decide) rfl (by decide) rfl (Nat.le_of_ble_eq_true rfl) ⟨Nat.zero_le _, Nat.zero_le _⟩ dX8_couples_19 (fun v_16 M_14 H locs hN hw => ?_)
        obtain ⟨rfl, rfl⟩ := hN
        obtain ⟨tv_19, tM_17, c_18, hf⟩ := x_bE hf
        refine x_nI C hw hl.1 [.int v_16] [.int x1_5] (mX10_oneIf l g c_18) lk_X8_152 (by decide) rfl (Nat.le_of_ble_eq_true rfl) ⟨Nat.zero_le _, Nat.zero_le _⟩ dX8_couples_22 (fun v_19 M_17 H locs hN hw => ?_)
        obtain ⟨rfl, rfl⟩ := hN
        refine lv_iadd hx hb dX8_couples_25 ?_
        refine lv_topi (fun x1_20 ex1_20 => ?_)
        have hf := x_lE ex1_20 hf
        refine lv_istore_n (lv' := [(1, .int x1_20), (0, .ref (g.2.2.1 k0)), (2, .int x2_6)]) hx hb dX8_couples_26 rfl hl (by decide) rfl (fun ls hl => ?_)
        obtain ⟨x2_21, ex2_21⟩ : ∃ z : Int32, z = (x2_6 + (1 : Int32)) := ⟨_, rfl⟩
        have hf := x_lE ex2_21 hf
        refine lv_iinc (v := x2_21) (lv' := [(2, .int x2_21), (1, .int x1_20), (0, .ref (g.2.2.1 k0))]) hx hb dX8_couples_27 hl (k := 2) rfl (by rw [ex2_21]; rfl) (by decide) rfl (fun ls hl => ?_)
        refine lv_goto (tgt := 4) hx hb dX8_couples_30 (by decide) ?_
        exact ih_9 _ _ _ _ _ _ (lv_sub hl [2, 1, 0] rfl) hw hf
  exact hL_22 _ _ _ _ _ _ _ (lv_sub hl [2, 1, 0] rfl) hw hf
def fX8_allCustody_L4 (k0 : Nat) : Nat → xM → Int32 → Int32 → Option (Int32 × xM)
  | 0, _, _, _ => none
  | n_4 + 1, M_3, x1_1, x2_2 => if (M_3 k0 1) ≤ x2_2 then (some (x1_1, M_3)) else (x_g x2_2 (xn 0 (xr 0 k0 5)) (x_l (x1_1 + (M_3 (xr 0 (xr 0 k0 5) x2_2.toNatClampNeg) 2)) fun x1_10 => x_l (x2_2 + (1 : Int32)) fun x2_11 => fX8_allCustody_L4 k0 n_4 M_3 x1_10 x2_11))
def fX8_allCustody (M : xM) (k0 : Nat) : Option (Int32 × xM) := fX8_allCustody_L4 k0 x_FU M (0 : Int32) (0 : Int32)
set_option maxRecDepth 100000 in
set_option maxHeartbeats 4000000 in
theorem mX8_allCustody (l : Launch) (g : xG) {k0 : Nat} {r : Int32} {M' : xM} (h0 : x_is 0 k0 8) {M : xM} (hf : fX8_allCustody M k0 = some (r, M')) : x_cI l g 0 yX8_allCustody cX8_allCustody 3 .int 0 0 [.ref (g.2.2.1 k0)] M (fun v N => v = r ∧ N = M') := by
  refine x_stI RX8 (by decide) rfl (Nat.le_of_ble_eq_true rfl) ?_
  intro p e s m args below meth c Q ls C hw ret hl
  obtain ⟨hx, hb, hml, hown, hB, -⟩ := id C
  have hl : lv_has ls 3 [(0, .ref (g.2.2.1 k0))] := hl
  unfold fX8_allCustody at hf
  refine lv_iconst (v := (0 : Int32)) hx hb dX8_allCustody_0 (by decide) ?_
  refine lv_istore_n (lv' := [(1, .int (0 : Int32)), (0, .ref (g.2.2.1 k0))]) hx hb dX8_allCustody_1 rfl hl (by decide) rfl (fun ls hl => ?_)
  refine lv_iconst (v := (0 : Int32)) hx hb dX8_allCustody_2 (by decide) ?_
  refine lv_istore_n (lv' := [(2, .int (0 : Int32)), (1, .int (0 : Int32)), (0, .ref (g.2.2.1 k0))]) hx hb dX8_allCustody_3 rfl hl (by decide) rfl (fun ls hl => ?_)
  have hL_12 : ∀ (n_4 : Nat) (H : Heap) (locs : List Loc) (M_3 : xM) (x1_1 : Int32) (x2_2 : Int32) (ls : Array Slot) , lv_has ls 3 [(0, .ref (g.2.2.1 k0)), (1, .int x1_1), (2, .int x2_2)] → x_w g 0 s H locs M_3 → fX8_allCustody_L4 k0 n_4 M_3 x1_1 x2_2 = some (r, M') → W p l e (x_rm 0 0) s m args below meth c H locs 0 0 Q (F0 m 4 ls []) := by
    intro n_4
    induction n_4 with
    | zero =>
      intro H locs M_3 x1_1 x2_2 ls  hl hw hf
      rw [fX8_allCustody_L4] at hf
      cases hf
    | succ n_4 ih_5 =>
      intro H locs M_3 x1_1 x2_2 ls  hl hw hf
      rw [fX8_allCustody_L4] at hf
      refine lv_iload_n hx hb dX8_allCustody_4 rfl (lv_at hl 2 rfl) ?_
      refine lv_aload_n hx hb dX8_allCustody_5 rfl (lv_at hl 0 rfl) ?_
      refine fg_X8_15 C hw h0 dX8_allCustody_6 ?_
      refine lv_icmp_ge (tgt := 30) hx hb dX8_allCustody_9 (by decide) (fun q_6 => ?_) (fun q_6 => ?_)
      · have hf := x_iP hf q_6
        refine lv_iload_n hx hb dX8_allCustody_30 rfl (lv_at hl 1 rfl) ?_
        exact ret hf dX8_allCustody_31 hw
      · have hf := x_iN hf q_6
        refine lv_iload_n hx hb dX8_allCustody_12 rfl (lv_at hl 1 rfl) ?_
        refine lv_aload_n hx hb dX8_allCustody_13 rfl (lv_at hl 0 rfl) ?_
        refine fg_X8_29 C hw h0 dX8_allCustody_14 ?_
        have h_7 : x_is 0 (xr 0 k0 5) 17 := x_tr h0 (by decide) (by decide) rfl (by decide)
        refine lv_iload_n hx hb dX8_allCustody_17 rfl (lv_at hl 2 rfl) ?_
        obtain ⟨q_8, hf⟩ := x_gE hf
        refine x_rld (t := 5) C hw h_7 (by decide) rfl q_8 dX8_allCustody_18 ?_
        have h_9 : x_is 0 (xr 0 (xr 0 k0 5) x2_2.toNatClampNeg) 4 := x_ta h_7 (by decide) (x_ilt q_8)
        refine fg_X8_156 C hw h_9 dX8_allCustody_19 ?_
        refine lv_iadd hx hb dX8_allCustody_22 ?_
        refine lv_topi (fun x1_10 ex1_10 => ?_)
        have hf := x_lE ex1_10 hf
        refine lv_istore_n (lv' := [(1, .int x1_10), (0, .ref (g.2.2.1 k0)), (2, .int x2_2)]) hx hb dX8_allCustody_23 rfl hl (by decide) rfl (fun ls hl => ?_)
        obtain ⟨x2_11, ex2_11⟩ : ∃ z : Int32, z = (x2_2 + (1 : Int32)) := ⟨_, rfl⟩
        have hf := x_lE ex2_11 hf
        refine lv_iinc (v := x2_11) (lv' := [(2, .int x2_11), (1, .int x1_10), (0, .ref (g.2.2.1 k0))]) hx hb dX8_allCustody_24 hl (k := 2) rfl (by rw [ex2_11]; rfl) (by decide) rfl (fun ls hl => ?_)
        refine lv_goto (tgt := 4) hx hb dX8_allCustody_27 (by decide) ?_
        exact ih_5 _ _ _ _ _ _ (lv_sub hl [2, 1, 0] rfl) hw hf
  exact hL_12 _ _ _ _ _ _ _ (lv_sub hl [2, 1, 0] rfl) hw hf
def fX8_openDeeds_L4 (k0 : Nat) : Nat → xM → Int32 → Int32 → Option (Int32 × xM)
  | 0, _, _, _ => none
  | n_4 + 1, M_3, x1_1, x2_2 => if (M_3 k0 3) ≤ x2_2 then (some (x1_1, M_3)) else (x_g x2_2 (xn 0 (xr 0 k0 7)) (x_b (fX0_isJudged M_3 (xr 0 (xr 0 k0 7) x2_2.toNatClampNeg)) fun v_12 M_10 => x_l (fun (M_15 : xM) (z_13 : Int32) => x_b (fX10_oneIf M_15 z_13) fun v_18 M_16 => x_l (x1_1 + v_18) fun x1_19 => x_l (x2_2 + (1 : Int32)) fun x2_20 => fX8_openDeeds_L4 k0 n_4 M_16 x1_19 x2_20) fun k30_14 => if v_12 = 0 then (k30_14 M_10 (1 : Int32)) else (k30_14 M_10 (0 : Int32))))
def fX8_openDeeds (M : xM) (k0 : Nat) : Option (Int32 × xM) := fX8_openDeeds_L4 k0 x_FU M (0 : Int32) (0 : Int32)
set_option maxRecDepth 100000 in
set_option maxHeartbeats 4000000 in
theorem mX8_openDeeds (l : Launch) (g : xG) {k0 : Nat} {r : Int32} {M' : xM} (h0 : x_is 0 k0 8) {M : xM} (hf : fX8_openDeeds M k0 = some (r, M')) : x_cI l g 0 yX8_openDeeds cX8_openDeeds 3 .int 1 20 [.ref (g.2.2.1 k0)] M (fun v N => v = r ∧ N = M') := by
  refine x_stI RX8 (by decide) rfl (Nat.le_of_ble_eq_true rfl) ?_
  intro p e s m args below meth c Q ls C hw ret hl
  obtain ⟨hx, hb, hml, hown, hB, -⟩ := id C
  have hl : lv_has ls 3 [(0, .ref (g.2.2.1 k0))] := hl
  unfold fX8_openDeeds at hf
  refine lv_iconst (v := (0 : Int32)) hx hb dX8_openDeeds_0 (by decide) ?_
  refine lv_istore_n (lv' := [(1, .int (0 : Int32)), (0, .ref (g.2.2.1 k0))]) hx hb dX8_openDeeds_1 rfl hl (by decide) rfl (fun ls hl => ?_)
  refine lv_iconst (v := (0 : Int32)) hx hb dX8_openDeeds_2 (by decide) ?_
  refine lv_istore_n (lv' := [(2, .int (0 : Int32)), (1, .int (0 : Int32)), (0, .ref (g.2.2.1 k0))]) hx hb dX8_openDeeds_3 rfl hl (by decide) rfl (fun ls hl => ?_)
  have hL_22 : ∀ (n_4 : Nat) (H : Heap) (locs : List Loc) (M_3 : xM) (x1_1 : Int32) (x2_2 : Int32) (ls : Array Slot) , lv_has ls 3 [(0, .ref (g.2.2.1 k0)), (1, .int x1_1), (2, .int x2_2)] → x_w g 0 s H locs M_3 → fX8_openDeeds_L4 k0 n_4 M_3 x1_1 x2_2 = some (r, M') → W p l e (x_rm 1 20) s m args below meth c H locs 0 0 Q (F0 m 4 ls []) := by
    intro n_4
    induction n_4 with
    | zero =>
      intro H locs M_3 x1_1 x2_2 ls  hl hw hf
      rw [fX8_openDeeds_L4] at hf
      cases hf
    | succ n_4 ih_5 =>
      intro H locs M_3 x1_1 x2_2 ls  hl hw hf
      rw [fX8_openDeeds_L4] at hf
      refine lv_iload_n hx hb dX8_openDeeds_4 rfl (lv_at hl 2 rfl) ?_
      refine lv_aload_n hx hb dX8_openDeeds_5 rfl (lv_at hl 0 rfl) ?_
      refine fg_X8_21 C hw h0 dX8_openDeeds_6 ?_
      refine lv_icmp_ge (tgt := 41) hx hb dX8_openDeeds_9 (by decide) (fun q_6 => ?_) (fun q_6 => ?_)
      · have hf := x_iP hf q_6
        refine lv_iload_n hx hb dX8_openDeeds_41 rfl (lv_at hl 1 rfl) ?_
        exact ret hf dX8_openDeeds_42 hw
      · have hf := x_iN hf q_6
        refine lv_iload_n hx hb dX8_openDeeds_12 rfl (lv_at hl 1 rfl) ?_
        refine lv_aload_n hx hb dX8_openDeeds_13 rfl (lv_at hl 0 rfl) ?_
        refine fg_X8_41 C hw h0 dX8_openDeeds_14 ?_
        have h_7 : x_is 0 (xr 0 k0 7) 14 := x_tr h0 (by decide) (by decide) rfl (by decide)
        refine lv_iload_n hx hb dX8_openDeeds_17 rfl (lv_at hl 2 rfl) ?_
        obtain ⟨q_8, hf⟩ := x_gE hf
        refine x_rld (t := 2) C hw h_7 (by decide) rfl q_8 dX8_openDeeds_18 ?_
        have h_9 : x_is 0 (xr 0 (xr 0 k0 7) x2_2.toNatClampNeg) 0 := x_ta h_7 (by decide) (x_ilt q_8)
        obtain ⟨tv_12, tM_10, c_11, hf⟩ := x_bE hf
        refine x_vI C hw hl.1 [] [.int x1_1] (mX0_isJudged l g h_9 c_11) lk_X8_159 h_9 (by decide) rfl (by decide) rfl (Nat.le_of_ble_eq_true rfl) ⟨Nat.zero_le _, Nat.zero_le _⟩ dX8_openDeeds_19 (fun v_12 M_10 H locs hN hw => ?_)
        obtain ⟨rfl, rfl⟩ := hN
        obtain ⟨k30_14, ek30_14, hf⟩ := x_jE hf
        have hk30_14 : ∀ (H : Heap) (locs : List Loc) (M_15 : xM) (z_13 : Int32) (ls : Array Slot) , lv_has ls 3 [(0, .ref (g.2.2.1 k0)), (2, .int x2_2)] → x_w g 0 s H locs M_15 → k30_14 M_15 z_13 = some (r, M') → W p l e (x_rm 1 20) s m args below meth c H locs 0 0 Q (F0 m 30 ls [.int z_13, .int x1_1]) := by
          intro H locs M_15 z_13 ls  hl hw hf
          rw [ek30_14] at hf
          obtain ⟨tv_18, tM_16, c_17, hf⟩ := x_bE hf
          refine x_nI C hw hl.1 [.int z_13] [.int x1_1] (mX10_oneIf l g c_17) lk_X8_152 (by decide) rfl (Nat.le_of_ble_eq_true rfl) ⟨Nat.zero_le _, Nat.zero_le _⟩ dX8_openDeeds_30 (fun v_18 M_16 H locs hN hw => ?_)
          obtain ⟨rfl, rfl⟩ := hN
          refine lv_iadd hx hb dX8_openDeeds_33 ?_
          refine lv_topi (fun x1_19 ex1_19 => ?_)
          have hf := x_lE ex1_19 hf
          refine lv_istore_n (lv' := [(1, .int x1_19), (0, .ref (g.2.2.1 k0)), (2, .int x2_2)]) hx hb dX8_openDeeds_34 rfl hl (by decide) rfl (fun ls hl => ?_)
          obtain ⟨x2_20, ex2_20⟩ : ∃ z : Int32, z = (x2_2 + (1 : Int32)) := ⟨_, rfl⟩
          have hf := x_lE ex2_20 hf
          refine lv_iinc (v := x2_20) (lv' := [(2, .int x2_20), (1, .int x1_19), (0, .ref (g.2.2.1 k0))]) hx hb dX8_openDeeds_35 hl (k := 2) rfl (by rw [ex2_20]; rfl) (by decide) rfl (fun ls hl => ?_)
          refine lv_goto (tgt := 4) hx hb dX8_openDeeds_38 (by decide) ?_
          exact ih_5 _ _ _ _ _ _ (lv_sub hl [2, 1, 0] rfl) hw hf
        refine lv_if_ne (tgt := 29) hx hb dX8_openDeeds_22 (by decide) (fun q_21 => ?_) (fun q_21 => ?_)
        · have hf := x_iN hf q_21
          refine lv_iconst (v := (0 : Int32)) hx hb dX8_openDeeds_29 (by decide) ?_
          exact hk30_14 _ _ _ _ _ (lv_sub hl [0, 2] rfl) hw hf
        · have hf := x_iP hf q_21
          refine lv_iconst (v := (1 : Int32)) hx hb dX8_openDeeds_25 (by decide) ?_
          refine lv_goto (tgt := 30) hx hb dX8_openDeeds_26 (by decide) ?_
          exact hk30_14 _ _ _ _ _ (lv_sub hl [0, 2] rfl) hw hf
  exact hL_22 _ _ _ _ _ _ _ (lv_sub hl [2, 1, 0] rfl) hw hf
def fX8_hasOpenDeed_L2 (k0 : Nat) (a1 : Int32) : Nat → xM → Int32 → Option (Int32 × xM)
  | 0, _, _ => none
  | n_3 + 1, M_2, x2_1 => if (M_2 k0 3) ≤ x2_1 then (x_z (0 : Int32) (some ((0 : Int32), M_2))) else (x_g x2_1 (xn 0 (xr 0 k0 7)) (x_b (fX0_isOpenOf M_2 (xr 0 (xr 0 k0 7) x2_1.toNatClampNeg) a1) fun v_11 M_9 => if v_11 = 0 then (x_l (x2_1 + (1 : Int32)) fun x2_13 => fX8_hasOpenDeed_L2 k0 a1 n_3 M_9 x2_13) else (x_z (1 : Int32) (some ((1 : Int32), M_9)))))
def fX8_hasOpenDeed (M : xM) (k0 : Nat) (a1 : Int32) : Option (Int32 × xM) := fX8_hasOpenDeed_L2 k0 a1 x_FU M (0 : Int32)
set_option maxRecDepth 100000 in
set_option maxHeartbeats 4000000 in
theorem mX8_hasOpenDeed (l : Launch) (g : xG) {k0 : Nat} {a1 : Int32} {r : Int32} {M' : xM} (h0 : x_is 0 k0 8) {M : xM} (hf : fX8_hasOpenDeed M k0 a1 = some (r, M')) : x_cI l g 0 yX8_hasOpenDeed cX8_hasOpenDeed 3 .boolean 2 41 [.ref (g.2.2.1 k0), .int a1] M (fun v N => v = r ∧ N = M') := by
  refine x_stZ RX8 (by decide) rfl (Nat.le_of_ble_eq_true rfl) ?_
  intro p e s m args below meth c Q ls C hw ret hl
  obtain ⟨hx, hb, hml, hown, hB, -⟩ := id C
  have hl : lv_has ls 3 [(0, .ref (g.2.2.1 k0)), (1, .int a1)] := hl
  unfold fX8_hasOpenDeed at hf
  refine lv_iconst (v := (0 : Int32)) hx hb dX8_hasOpenDeed_0 (by decide) ?_
  refine lv_istore_n (lv' := [(2, .int (0 : Int32)), (0, .ref (g.2.2.1 k0)), (1, .int a1)]) hx hb dX8_hasOpenDeed_1 rfl hl (by decide) rfl (fun ls hl => ?_)
  have hL_14 : ∀ (n_3 : Nat) (H : Heap) (locs : List Loc) (M_2 : xM) (x2_1 : Int32) (ls : Array Slot) , lv_has ls 3 [(0, .ref (g.2.2.1 k0)), (1, .int a1), (2, .int x2_1)] → x_w g 0 s H locs M_2 → fX8_hasOpenDeed_L2 k0 a1 n_3 M_2 x2_1 = some (r, M') → W p l e (x_rm 2 41) s m args below meth c H locs 0 0 Q (F0 m 2 ls []) := by
    intro n_3
    induction n_3 with
    | zero =>
      intro H locs M_2 x2_1 ls  hl hw hf
      rw [fX8_hasOpenDeed_L2] at hf
      cases hf
    | succ n_3 ih_4 =>
      intro H locs M_2 x2_1 ls  hl hw hf
      rw [fX8_hasOpenDeed_L2] at hf
      refine lv_iload_n hx hb dX8_hasOpenDeed_2 rfl (lv_at hl 2 rfl) ?_
      refine lv_aload_n hx hb dX8_hasOpenDeed_3 rfl (lv_at hl 0 rfl) ?_
      refine fg_X8_21 C hw h0 dX8_hasOpenDeed_4 ?_
      refine lv_icmp_ge (tgt := 31) hx hb dX8_hasOpenDeed_7 (by decide) (fun q_5 => ?_) (fun q_5 => ?_)
      · have hf := x_iP hf q_5
        refine lv_iconst (v := (0 : Int32)) hx hb dX8_hasOpenDeed_31 (by decide) ?_
        exact ret hf dX8_hasOpenDeed_32 hw
      · have hf := x_iN hf q_5
        refine lv_aload_n hx hb dX8_hasOpenDeed_10 rfl (lv_at hl 0 rfl) ?_
        refine fg_X8_41 C hw h0 dX8_hasOpenDeed_11 ?_
        have h_6 : x_is 0 (xr 0 k0 7) 14 := x_tr h0 (by decide) (by decide) rfl (by decide)
        refine lv_iload_n hx hb dX8_hasOpenDeed_14 rfl (lv_at hl 2 rfl) ?_
        obtain ⟨q_7, hf⟩ := x_gE hf
        refine x_rld (t := 2) C hw h_6 (by decide) rfl q_7 dX8_hasOpenDeed_15 ?_
        have h_8 : x_is 0 (xr 0 (xr 0 k0 7) x2_1.toNatClampNeg) 0 := x_ta h_6 (by decide) (x_ilt q_7)
        refine lv_iload_n hx hb dX8_hasOpenDeed_16 rfl (lv_at hl 1 rfl) ?_
        obtain ⟨tv_11, tM_9, c_10, hf⟩ := x_bE hf
        refine x_vI C hw hl.1 [.int a1] [] (mX0_isOpenOf l g h_8 c_10) lk_X8_162 h_8 (by decide) rfl (by decide) rfl (Nat.le_of_ble_eq_true rfl) ⟨Nat.zero_le _, Nat.zero_le _⟩ dX8_hasOpenDeed_17 (fun v_11 M_9 H locs hN hw => ?_)
        obtain ⟨rfl, rfl⟩ := hN
        refine lv_if_eq (tgt := 25) hx hb dX8_hasOpenDeed_20 (by decide) (fun q_12 => ?_) (fun q_12 => ?_)
        · have hf := x_iP hf q_12
          obtain ⟨x2_13, ex2_13⟩ : ∃ z : Int32, z = (x2_1 + (1 : Int32)) := ⟨_, rfl⟩
          have hf := x_lE ex2_13 hf
          refine lv_iinc (v := x2_13) (lv' := [(2, .int x2_13), (0, .ref (g.2.2.1 k0)), (1, .int a1)]) hx hb dX8_hasOpenDeed_25 hl (k := 2) rfl (by rw [ex2_13]; rfl) (by decide) rfl (fun ls hl => ?_)
          refine lv_goto (tgt := 2) hx hb dX8_hasOpenDeed_28 (by decide) ?_
          exact ih_4 _ _ _ _ _ (lv_sub hl [1, 2, 0] rfl) hw hf
        · have hf := x_iN hf q_12
          refine lv_iconst (v := (1 : Int32)) hx hb dX8_hasOpenDeed_23 (by decide) ?_
          exact ret hf dX8_hasOpenDeed_24 hw
  exact hL_14 _ _ _ _ _ _ (lv_sub hl [1, 2, 0] rfl) hw hf
def fX8_takeOpenDeeds_L2 (k0 : Nat) (a1 : Int32) (a2 : Int32) : Nat → xM → Int32 → Option (xM)
  | 0, _, _ => none
  | n_3 + 1, M_2, x3_1 => if (M_2 k0 3) ≤ x3_1 then (some M_2) else (x_g x3_1 (xn 0 (xr 0 k0 7)) (x_b (fX0_isOpenOf M_2 (xr 0 (xr 0 k0 7) x3_1.toNatClampNeg) a1) fun v_11 M_9 => x_l (fun (M_13 : xM) => x_l (x3_1 + (1 : Int32)) fun x3_14 => fX8_takeOpenDeeds_L2 k0 a1 a2 n_3 M_13 x3_14) fun k33_12 => if v_11 = 0 then (k33_12 M_9) else (x_g x3_1 (xn 0 (xr 0 k0 7)) (x_l (x_up M_9 (xr 0 (xr 0 k0 7) x3_1.toNatClampNeg) 4 a2) fun M_17 => k33_12 M_17))))
def fX8_takeOpenDeeds (M : xM) (k0 : Nat) (a1 : Int32) (a2 : Int32) : Option (xM) := fX8_takeOpenDeeds_L2 k0 a1 a2 x_FU M (0 : Int32)
set_option maxRecDepth 100000 in
set_option maxHeartbeats 4000000 in
theorem mX8_takeOpenDeeds (l : Launch) (g : xG) {k0 : Nat} {a1 : Int32} {a2 : Int32} {M' : xM} (h0 : x_is 0 k0 8) {M : xM} (hf : fX8_takeOpenDeeds M k0 a1 a2 = some M') : x_cV l g 0 yX8_takeOpenDeeds cX8_takeOpenDeeds 4 2 41 [.ref (g.2.2.1 k0), .int a1, .int a2] M (fun N => N = M') := by
  refine x_stV RX8 (by decide) rfl (Nat.le_of_ble_eq_true rfl) ?_
  intro p e s m args below meth c Q ls C hw ret hl
  obtain ⟨hx, hb, hml, hown, hB, -⟩ := id C
  have hl : lv_has ls 4 [(0, .ref (g.2.2.1 k0)), (1, .int a1), (2, .int a2)] := hl
  unfold fX8_takeOpenDeeds at hf
  refine lv_iconst (v := (0 : Int32)) hx hb dX8_takeOpenDeeds_0 (by decide) ?_
  refine lv_istore_n (lv' := [(3, .int (0 : Int32)), (0, .ref (g.2.2.1 k0)), (1, .int a1), (2, .int a2)]) hx hb dX8_takeOpenDeeds_1 rfl hl (by decide) rfl (fun ls hl => ?_)
  have hL_18 : ∀ (n_3 : Nat) (H : Heap) (locs : List Loc) (M_2 : xM) (x3_1 : Int32) (ls : Array Slot) , lv_has ls 4 [(0, .ref (g.2.2.1 k0)), (1, .int a1), (2, .int a2), (3, .int x3_1)] → x_w g 0 s H locs M_2 → fX8_takeOpenDeeds_L2 k0 a1 a2 n_3 M_2 x3_1 = some M' → W p l e (x_rm 2 41) s m args below meth c H locs 0 0 Q (F0 m 2 ls []) := by
    intro n_3
    induction n_3 with
    | zero =>
      intro H locs M_2 x3_1 ls  hl hw hf
      rw [fX8_takeOpenDeeds_L2] at hf
      cases hf
    | succ n_3 ih_4 =>
      intro H locs M_2 x3_1 ls  hl hw hf
      rw [fX8_takeOpenDeeds_L2] at hf
      refine lv_iload_n hx hb dX8_takeOpenDeeds_2 rfl (lv_at hl 3 rfl) ?_
      refine lv_aload_n hx hb dX8_takeOpenDeeds_3 rfl (lv_at hl 0 rfl) ?_
      refine fg_X8_21 C hw h0 dX8_takeOpenDeeds_4 ?_
      refine lv_icmp_ge (tgt := 39) hx hb dX8_takeOpenDeeds_7 (by decide) (fun q_5 => ?_) (fun q_5 => ?_)
      · have hf := x_iP hf q_5
        exact ret hf dX8_takeOpenDeeds_39 hw
      · have hf := x_iN hf q_5
        refine lv_aload_n hx hb dX8_takeOpenDeeds_10 rfl (lv_at hl 0 rfl) ?_
        refine fg_X8_41 C hw h0 dX8_takeOpenDeeds_11 ?_
        have h_6 : x_is 0 (xr 0 k0 7) 14 := x_tr h0 (by decide) (by decide) rfl (by decide)
        refine lv_iload_n hx hb dX8_takeOpenDeeds_14 rfl (lv_at hl 3 rfl) ?_
        obtain ⟨q_7, hf⟩ := x_gE hf
        refine x_rld (t := 2) C hw h_6 (by decide) rfl q_7 dX8_takeOpenDeeds_15 ?_
        have h_8 : x_is 0 (xr 0 (xr 0 k0 7) x3_1.toNatClampNeg) 0 := x_ta h_6 (by decide) (x_ilt q_7)
        refine lv_iload_n hx hb dX8_takeOpenDeeds_16 rfl (lv_at hl 1 rfl) ?_
        obtain ⟨tv_11, tM_9, c_10, hf⟩ := x_bE hf
        refine x_vI C hw hl.1 [.int a1] [] (mX0_isOpenOf l g h_8 c_10) lk_X8_162 h_8 (by decide) rfl (by decide) rfl (Nat.le_of_ble_eq_true rfl) ⟨Nat.zero_le _, Nat.zero_le _⟩ dX8_takeOpenDeeds_17 (fun v_11 M_9 H locs hN hw => ?_)
        obtain ⟨rfl, rfl⟩ := hN
        obtain ⟨k33_12, ek33_12, hf⟩ := x_jE hf
        have hk33_12 : ∀ (H : Heap) (locs : List Loc) (M_13 : xM)  (ls : Array Slot) , lv_has ls 4 [(0, .ref (g.2.2.1 k0)), (1, .int a1), (2, .int a2), (3, .int x3_1)] → x_w g 0 s H locs M_13 → k33_12 M_13 = some M' → W p l e (x_rm 2 41) s m args below meth c H locs 0 0 Q (F0 m 33 ls []) := by
          intro H locs M_13  ls  hl hw hf
          rw [ek33_12] at hf
          obtain ⟨x3_14, ex3_14⟩ : ∃ z : Int32, z = (x3_1 + (1 : Int32)) := ⟨_, rfl⟩
          have hf := x_lE ex3_14 hf
          refine lv_iinc (v := x3_14) (lv' := [(3, .int x3_14), (0, .ref (g.2.2.1 k0)), (1, .int a1), (2, .int a2)]) hx hb dX8_takeOpenDeeds_33 hl (k := 3) rfl (by rw [ex3_14]; rfl) (by decide) rfl (fun ls hl => ?_)
          refine lv_goto (tgt := 2) hx hb dX8_takeOpenDeeds_36 (by decide) ?_
          exact ih_4 _ _ _ _ _ (lv_sub hl [1, 2, 3, 0] rfl) hw hf
        refine lv_if_eq (tgt := 33) hx hb dX8_takeOpenDeeds_20 (by decide) (fun q_15 => ?_) (fun q_15 => ?_)
        · have hf := x_iP hf q_15
          exact hk33_12 _ _ _ _ (lv_sub hl [0, 1, 2, 3] rfl) hw hf
        · have hf := x_iN hf q_15
          refine lv_aload_n hx hb dX8_takeOpenDeeds_23 rfl (lv_at hl 0 rfl) ?_
          refine fg_X8_41 C hw h0 dX8_takeOpenDeeds_24 ?_
          refine lv_iload_n hx hb dX8_takeOpenDeeds_27 rfl (lv_at hl 3 rfl) ?_
          obtain ⟨q_16, hf⟩ := x_gE hf
          refine x_rld (t := 2) C hw h_6 (by decide) rfl q_16 dX8_takeOpenDeeds_28 ?_
          refine lv_iload_n hx hb dX8_takeOpenDeeds_29 rfl (lv_at hl 2 rfl) ?_
          refine fp_X8_165 C hw h_8 dX8_takeOpenDeeds_30 (fun H locs hw => ?_)
          obtain ⟨M_17, eM_17⟩ : ∃ z, z = (x_up M_9 (xr 0 (xr 0 k0 7) x3_1.toNatClampNeg) 4 a2) := ⟨_, rfl⟩
          rw [← eM_17] at hw
          have hf := x_lE eM_17 hf
          exact hk33_12 _ _ _ _ (lv_sub hl [0, 1, 2, 3] rfl) hw hf
  exact hL_18 _ _ _ _ _ _ (lv_sub hl [1, 2, 3, 0] rfl) hw hf
def fX8_pastOf_L4 (k0 : Nat) (a1 : Nat) : Nat → xM → Int32 → Int32 → Option (Int32 × xM)
  | 0, _, _, _ => none
  | n_4 + 1, M_3, x2_1, x3_2 => if (M_3 k0 4) ≤ x3_2 then (some (x2_1, M_3)) else (x_g x3_2 (xn 0 (xr 0 k0 8)) (x_l ((M_3 a1 2) - (M_3 (xr 0 (xr 0 k0 8) x3_2.toNatClampNeg) 1)) fun x4_10 => x_g x3_2 (xn 0 (xr 0 k0 8)) (x_l (fun (M_14 : xM) (x2_12 : Int32) => x_l (x3_2 + (1 : Int32)) fun x3_15 => fX8_pastOf_L4 k0 a1 n_4 M_14 x2_12 x3_15) fun k62_13 => if (M_3 (xr 0 (xr 0 k0 8) x3_2.toNatClampNeg) 0) = (M_3 a1 1) then (x_g (1 : Int32) (xn 0 (xr 0 k0 9)) (x_b (fX10_isWithin M_3 x4_10 (1 : Int32) (M_3 (xr 0 k0 9) (1 : Int32).toNatClampNeg)) fun v_21 M_19 => if v_21 = 0 then (k62_13 M_19 x2_1) else (x_l (x2_1 + (1 : Int32)) fun x2_23 => k62_13 M_19 x2_23))) else (k62_13 M_3 x2_1))))
def fX8_pastOf (M : xM) (k0 : Nat) (a1 : Nat) : Option (Int32 × xM) := fX8_pastOf_L4 k0 a1 x_FU M (0 : Int32) (0 : Int32)
set_option maxRecDepth 100000 in
set_option maxHeartbeats 4000000 in
theorem mX8_pastOf (l : Launch) (g : xG) {k0 : Nat} {a1 : Nat} {r : Int32} {M' : xM} (h0 : x_is 0 k0 8) (ha1 : x_is 0 a1 0) {M : xM} (hf : fX8_pastOf M k0 a1 = some (r, M')) : x_cI l g 0 yX8_pastOf cX8_pastOf 5 .int 1 22 [.ref (g.2.2.1 k0), .ref (g.2.2.1 a1)] M (fun v N => v = r ∧ N = M') := by
  refine x_stI RX8 (by decide) rfl (Nat.le_of_ble_eq_true rfl) ?_
  intro p e s m args below meth c Q ls C hw ret hl
  obtain ⟨hx, hb, hml, hown, hB, -⟩ := id C
  have hl : lv_has ls 5 [(0, .ref (g.2.2.1 k0)), (1, .ref (g.2.2.1 a1))] := hl
  unfold fX8_pastOf at hf
  refine lv_iconst (v := (0 : Int32)) hx hb dX8_pastOf_0 (by decide) ?_
  refine lv_istore_n (lv' := [(2, .int (0 : Int32)), (0, .ref (g.2.2.1 k0)), (1, .ref (g.2.2.1 a1))]) hx hb dX8_pastOf_1 rfl hl (by decide) rfl (fun ls hl => ?_)
  refine lv_iconst (v := (0 : Int32)) hx hb dX8_pastOf_2 (by decide) ?_
  refine lv_istore_n (lv' := [(3, .int (0 : Int32)), (2, .int (0 : Int32)), (0, .ref (g.2.2.1 k0)), (1, .ref (g.2.2.1 a1))]) hx hb dX8_pastOf_3 rfl hl (by decide) rfl (fun ls hl => ?_)
  have hL_24 : ∀ (n_4 : Nat) (H : Heap) (locs : List Loc) (M_3 : xM) (x2_1 : Int32) (x3_2 : Int32) (ls : Array Slot) , lv_has ls 5 [(0, .ref (g.2.2.1 k0)), (1, .ref (g.2.2.1 a1)), (2, .int x2_1), (3, .int x3_2)] → x_w g 0 s H locs M_3 → fX8_pastOf_L4 k0 a1 n_4 M_3 x2_1 x3_2 = some (r, M') → W p l e (x_rm 1 22) s m args below meth c H locs 0 0 Q (F0 m 4 ls []) := by
    intro n_4
    induction n_4 with
    | zero =>
      intro H locs M_3 x2_1 x3_2 ls  hl hw hf
      rw [fX8_pastOf_L4] at hf
      cases hf
    | succ n_4 ih_5 =>
      intro H locs M_3 x2_1 x3_2 ls  hl hw hf
      rw [fX8_pastOf_L4] at hf
      refine lv_iload_n hx hb dX8_pastOf_4 rfl (lv_at hl 3 rfl) ?_
      refine lv_aload_n hx hb dX8_pastOf_5 rfl (lv_at hl 0 rfl) ?_
      refine fg_X8_24 C hw h0 dX8_pastOf_6 ?_
      refine lv_icmp_ge (tgt := 68) hx hb dX8_pastOf_9 (by decide) (fun q_6 => ?_) (fun q_6 => ?_)
      · have hf := x_iP hf q_6
        refine lv_iload_n hx hb dX8_pastOf_68 rfl (lv_at hl 2 rfl) ?_
        exact ret hf dX8_pastOf_69 hw
      · have hf := x_iN hf q_6
        refine lv_aload_n hx hb dX8_pastOf_12 rfl (lv_at hl 1 rfl) ?_
        refine fg_X8_168 C hw ha1 dX8_pastOf_13 ?_
        refine lv_aload_n hx hb dX8_pastOf_16 rfl (lv_at hl 0 rfl) ?_
        refine fg_X8_47 C hw h0 dX8_pastOf_17 ?_
        have h_7 : x_is 0 (xr 0 k0 8) 16 := x_tr h0 (by decide) (by decide) rfl (by decide)
        refine lv_iload_n hx hb dX8_pastOf_20 rfl (lv_at hl 3 rfl) ?_
        obtain ⟨q_8, hf⟩ := x_gE hf
        refine x_rld (t := 4) C hw h_7 (by decide) rfl q_8 dX8_pastOf_21 ?_
        have h_9 : x_is 0 (xr 0 (xr 0 k0 8) x3_2.toNatClampNeg) 2 := x_ta h_7 (by decide) (x_ilt q_8)
        refine fg_X8_171 C hw h_9 dX8_pastOf_22 ?_
        refine lv_isub hx hb dX8_pastOf_25 ?_
        refine lv_topi (fun x4_10 ex4_10 => ?_)
        have hf := x_lE ex4_10 hf
        refine lv_istore (lv' := [(4, .int x4_10), (0, .ref (g.2.2.1 k0)), (1, .ref (g.2.2.1 a1)), (2, .int x2_1), (3, .int x3_2)]) hx hb dX8_pastOf_26 hl (by decide) rfl (fun ls hl => ?_)
        refine lv_aload_n hx hb dX8_pastOf_28 rfl (lv_at hl 1 rfl) ?_
        refine fg_X8_47 C hw h0 dX8_pastOf_29 ?_
        refine lv_iload_n hx hb dX8_pastOf_32 rfl (lv_at hl 4 rfl) ?_
        obtain ⟨q_11, hf⟩ := x_gE hf
        refine x_rld (t := 4) C hw h_7 (by decide) rfl q_11 dX8_pastOf_33 ?_
        refine fg_X8_172 C hw h_9 dX8_pastOf_34 ?_
        refine lv_aload_n hx hb dX8_pastOf_37 rfl (lv_at hl 2 rfl) ?_
        refine fg_X8_175 C hw ha1 dX8_pastOf_38 ?_
        obtain ⟨k62_13, ek62_13, hf⟩ := x_jE hf
        have hk62_13 : ∀ (H : Heap) (locs : List Loc) (M_14 : xM) (x2_12 : Int32) (ls : Array Slot) , lv_has ls 5 [(0, .ref (g.2.2.1 k0)), (1, .ref (g.2.2.1 a1)), (3, .int x3_2), (2, .int x2_12)] → x_w g 0 s H locs M_14 → k62_13 M_14 x2_12 = some (r, M') → W p l e (x_rm 1 22) s m args below meth c H locs 0 0 Q (F0 m 62 ls []) := by
          intro H locs M_14 x2_12 ls  hl hw hf
          rw [ek62_13] at hf
          obtain ⟨x3_15, ex3_15⟩ : ∃ z : Int32, z = (x3_2 + (1 : Int32)) := ⟨_, rfl⟩
          have hf := x_lE ex3_15 hf
          refine lv_iinc (v := x3_15) (lv' := [(3, .int x3_15), (0, .ref (g.2.2.1 k0)), (1, .ref (g.2.2.1 a1)), (2, .int x2_12)]) hx hb dX8_pastOf_62 hl (k := 2) rfl (by rw [ex3_15]; rfl) (by decide) rfl (fun ls hl => ?_)
          refine lv_goto (tgt := 4) hx hb dX8_pastOf_65 (by decide) ?_
          exact ih_5 _ _ _ _ _ _ (lv_sub hl [1, 2, 3, 0] rfl) hw hf
        refine lv_icmp_ne (tgt := 62) hx hb dX8_pastOf_41 (by decide) (fun q_16 => ?_) (fun q_16 => ?_)
        · have hf := x_iN hf q_16
          exact hk62_13 _ _ _ _ _ (lv_sub hl [1, 2, 4, 3] rfl) hw hf
        · have hf := x_iP hf q_16
          refine lv_iload hx hb dX8_pastOf_44 (lv_at hl 0 rfl) ?_
          refine lv_iconst (v := (1 : Int32)) hx hb dX8_pastOf_46 (by decide) ?_
          refine lv_aload_n hx hb dX8_pastOf_47 rfl (lv_at hl 1 rfl) ?_
          refine fg_X8_60 C hw h0 dX8_pastOf_48 ?_
          have h_17 : x_is 0 (xr 0 k0 9) 12 := x_tr h0 (by decide) (by decide) rfl (by decide)
          refine lv_iconst (v := (1 : Int32)) hx hb dX8_pastOf_51 (by decide) ?_
          obtain ⟨q_18, hf⟩ := x_gE hf
          refine x_ald C hw h_17 q_18 dX8_pastOf_52 ?_
          obtain ⟨tv_21, tM_19, c_20, hf⟩ := x_bE hf
          refine x_nI C hw hl.1 [.int x4_10, .int (1 : Int32), .int (M_3 (xr 0 k0 9) (1 : Int32).toNatClampNeg)] [] (mX10_isWithin l g c_20) lk_X8_106 (by decide) rfl (Nat.le_of_ble_eq_true rfl) ⟨Nat.zero_le _, Nat.zero_le _⟩ dX8_pastOf_53 (fun v_21 M_19 H locs hN hw => ?_)
          obtain ⟨rfl, rfl⟩ := hN
          refine lv_if_eq (tgt := 62) hx hb dX8_pastOf_56 (by decide) (fun q_22 => ?_) (fun q_22 => ?_)
          · have hf := x_iP hf q_22
            exact hk62_13 _ _ _ _ _ (lv_sub hl [1, 2, 4, 3] rfl) hw hf
          · have hf := x_iN hf q_22
            obtain ⟨x2_23, ex2_23⟩ : ∃ z : Int32, z = (x2_1 + (1 : Int32)) := ⟨_, rfl⟩
            have hf := x_lE ex2_23 hf
            refine lv_iinc (v := x2_23) (lv' := [(2, .int x2_23), (4, .int x4_10), (0, .ref (g.2.2.1 k0)), (1, .ref (g.2.2.1 a1)), (3, .int x3_2)]) hx hb dX8_pastOf_59 hl (k := 3) rfl (by rw [ex2_23]; rfl) (by decide) rfl (fun ls hl => ?_)
            exact hk62_13 _ _ _ _ _ (lv_sub hl [2, 3, 4, 0] rfl) hw hf
  exact hL_24 _ _ _ _ _ _ _ (lv_sub hl [2, 3, 1, 0] rfl) hw hf
def fX8_youth (M : xM) (k0 : Nat) (a1 : Int32) : Option (Int32 × xM) := x_g a1 (xn 0 (xr 0 k0 5)) (x_b (fX4_isOfKind M (xr 0 (xr 0 k0 5) a1.toNatClampNeg) (1 : Int32)) fun v_6 M_4 => x_b (fX10_oneIf M_4 v_6) fun v_9 M_7 => some (v_9, M_7))
set_option maxRecDepth 100000 in
set_option maxHeartbeats 4000000 in
theorem mX8_youth (l : Launch) (g : xG) {k0 : Nat} {a1 : Int32} {r : Int32} {M' : xM} (h0 : x_is 0 k0 8) {M : xM} (hf : fX8_youth M k0 a1 = some (r, M')) : x_cI l g 0 yX8_youth cX8_youth 2 .int 1 21 [.ref (g.2.2.1 k0), .int a1] M (fun v N => v = r ∧ N = M') := by
  refine x_stI RX8 (by decide) rfl (Nat.le_of_ble_eq_true rfl) ?_
  intro p e s m args below meth c Q ls C hw ret hl
  obtain ⟨hx, hb, hml, hown, hB, -⟩ := id C
  have hl : lv_has ls 2 [(0, .ref (g.2.2.1 k0)), (1, .int a1)] := hl
  unfold fX8_youth at hf
  refine lv_aload_n hx hb dX8_youth_0 rfl (lv_at hl 0 rfl) ?_
  refine fg_X8_29 C hw h0 dX8_youth_1 ?_
  have h_1 : x_is 0 (xr 0 k0 5) 17 := x_tr h0 (by decide) (by decide) rfl (by decide)
  refine lv_iload_n hx hb dX8_youth_4 rfl (lv_at hl 1 rfl) ?_
  obtain ⟨q_2, hf⟩ := x_gE hf
  refine x_rld (t := 5) C hw h_1 (by decide) rfl q_2 dX8_youth_5 ?_
  have h_3 : x_is 0 (xr 0 (xr 0 k0 5) a1.toNatClampNeg) 4 := x_ta h_1 (by decide) (x_ilt q_2)
  refine lv_iconst (v := (1 : Int32)) hx hb dX8_youth_6 (by decide) ?_
  obtain ⟨tv_6, tM_4, c_5, hf⟩ := x_bE hf
  refine x_vI C hw hl.1 [.int (1 : Int32)] [] (mX4_isOfKind l g h_3 c_5) lk_X8_139 h_3 (by decide) rfl (by decide) rfl (Nat.le_of_ble_eq_true rfl) ⟨Nat.zero_le _, Nat.zero_le _⟩ dX8_youth_7 (fun v_6 M_4 H locs hN hw => ?_)
  obtain ⟨rfl, rfl⟩ := hN
  obtain ⟨tv_9, tM_7, c_8, hf⟩ := x_bE hf
  refine x_nI C hw hl.1 [.int v_6] [] (mX10_oneIf l g c_8) lk_X8_152 (by decide) rfl (Nat.le_of_ble_eq_true rfl) ⟨Nat.zero_le _, Nat.zero_le _⟩ dX8_youth_10 (fun v_9 M_7 H locs hN hw => ?_)
  obtain ⟨rfl, rfl⟩ := hN
  exact ret hf dX8_youth_13 hw
def fX10_bounded (M : xM) (a1 : Int32) (a2 : Int32) (a3 : Int32) : Option (Int32 × xM) := some ((if a3 < (if a1 < a2 then a2 else a1) then a3 else (if a1 < a2 then a2 else a1)), M)
set_option maxRecDepth 100000 in
set_option maxHeartbeats 4000000 in
theorem mX10_bounded (l : Launch) (g : xG) {a1 : Int32} {a2 : Int32} {a3 : Int32} {r : Int32} {M' : xM}  {M : xM} (hf : fX10_bounded M a1 a2 a3 = some (r, M')) : x_cI l g 0 yX10_bounded cX10_bounded 3 .int 1 23 [.int a1, .int a2, .int a3] M (fun v N => v = r ∧ N = M') := by
  refine x_stI RX10 (by decide) rfl (Nat.le_of_ble_eq_true rfl) ?_
  intro p e s m args below meth c Q ls C hw ret hl
  obtain ⟨hx, hb, hml, hown, hB, -⟩ := id C
  have hl : lv_has ls 3 [(0, .int a1), (1, .int a2), (2, .int a3)] := hl
  unfold fX10_bounded at hf
  refine lv_iload_n hx hb dX10_bounded_0 rfl (lv_at hl 0 rfl) ?_
  refine lv_iload_n hx hb dX10_bounded_1 rfl (lv_at hl 1 rfl) ?_
  refine mm_X10_326 C hl.1 (Nat.le_of_ble_eq_true rfl) (Nat.le_of_ble_eq_true rfl) ⟨Nat.zero_le _, Nat.zero_le _⟩ dX10_bounded_2 ?_
  refine lv_iload_n hx hb dX10_bounded_5 rfl (lv_at hl 2 rfl) ?_
  refine mm_X10_224 C hl.1 (Nat.le_of_ble_eq_true rfl) (Nat.le_of_ble_eq_true rfl) ⟨Nat.zero_le _, Nat.zero_le _⟩ dX10_bounded_6 ?_
  exact ret hf dX10_bounded_9 hw
def fX8_daysFor (M : xM) (k0 : Nat) (a1 : Nat) : Option (Int32 × xM) := x_v (fX7_set M (xr 0 k0 12) (103 : Int32) (M a1 3)) fun M_2 => x_b (fX8_pastOf M_2 k0 a1) fun v_6 M_4 => x_v (fX7_set M_4 (xr 0 k0 12) (112 : Int32) v_6) fun M_7 => x_b (fX0_isOfKind M_7 a1 (2 : Int32)) fun v_11 M_9 => x_b (fX10_oneIf M_9 v_11) fun v_14 M_12 => x_v (fX7_set M_12 (xr 0 k0 12) (97 : Int32) v_14) fun M_15 => x_v (fX7_set M_15 (xr 0 k0 12) (107 : Int32) (M_15 a1 0)) fun M_17 => x_b (fX8_youth M_17 k0 (M_17 a1 1)) fun v_21 M_19 => x_v (fX7_set M_19 (xr 0 k0 12) (121 : Int32) v_21) fun M_22 => x_b (fX7_workOut M_22 (xr 0 k0 12) (xr 0 k0 11) (0 : Int32)) fun v_27 M_25 => x_g (2 : Int32) (xn 0 (xr 0 k0 9)) (x_g (3 : Int32) (xn 0 (xr 0 k0 9)) (x_b (fX10_bounded M_25 v_27 (M_25 (xr 0 k0 9) (2 : Int32).toNatClampNeg) (M_25 (xr 0 k0 9) (3 : Int32).toNatClampNeg)) fun v_33 M_31 => some (v_33, M_31)))
set_option maxRecDepth 100000 in
set_option maxHeartbeats 4000000 in
theorem mX8_daysFor (l : Launch) (g : xG) {k0 : Nat} {a1 : Nat} {r : Int32} {M' : xM} (h0 : x_is 0 k0 8) (ha1 : x_is 0 a1 0) {M : xM} (hf : fX8_daysFor M k0 a1 = some (r, M')) : x_cI l g 0 yX8_daysFor cX8_daysFor 2 .int 3 68 [.ref (g.2.2.1 k0), .ref (g.2.2.1 a1)] M (fun v N => v = r ∧ N = M') := by
  refine x_stI RX8 (by decide) rfl (Nat.le_of_ble_eq_true rfl) ?_
  intro p e s m args below meth c Q ls C hw ret hl
  obtain ⟨hx, hb, hml, hown, hB, -⟩ := id C
  have hl : lv_has ls 2 [(0, .ref (g.2.2.1 k0)), (1, .ref (g.2.2.1 a1))] := hl
  unfold fX8_daysFor at hf
  refine lv_aload_n hx hb dX8_daysFor_0 rfl (lv_at hl 0 rfl) ?_
  refine fg_X8_76 C hw h0 dX8_daysFor_1 ?_
  have h_1 : x_is 0 (xr 0 k0 12) 7 := x_tr h0 (by decide) (by decide) rfl (by decide)
  refine lv_bipush (v := (103 : Int32)) hx hb dX8_daysFor_4 (by decide) ?_
  refine lv_aload_n hx hb dX8_daysFor_6 rfl (lv_at hl 1 rfl) ?_
  refine fg_X8_176 C hw ha1 dX8_daysFor_7 ?_
  obtain ⟨tM_2, c_3, hf⟩ := x_vE hf
  refine x_vV C hw hl.1 [.int (103 : Int32), .int (M a1 3)] [] (mX7_set l g h_1 c_3) lk_X8_179 h_1 (by decide) rfl (by decide) rfl (Nat.le_of_ble_eq_true rfl) ⟨Nat.zero_le _, Nat.zero_le _⟩ dX8_daysFor_10 (fun M_2 H locs hN hw => ?_)
  obtain rfl := hN
  refine lv_aload_n hx hb dX8_daysFor_13 rfl (lv_at hl 0 rfl) ?_
  refine fg_X8_76 C hw h0 dX8_daysFor_14 ?_
  refine lv_bipush (v := (112 : Int32)) hx hb dX8_daysFor_17 (by decide) ?_
  refine lv_aload_n hx hb dX8_daysFor_19 rfl (lv_at hl 0 rfl) ?_
  refine lv_aload_n hx hb dX8_daysFor_20 rfl (lv_at hl 1 rfl) ?_
  obtain ⟨tv_6, tM_4, c_5, hf⟩ := x_bE hf
  refine x_vI C hw hl.1 [.ref (g.2.2.1 a1)] [.int (112 : Int32), .ref (g.2.2.1 (xr 0 k0 12))] (mX8_pastOf l g h0 ha1 c_5) lk_X8_183 h0 (by decide) rfl (by decide) rfl (Nat.le_of_ble_eq_true rfl) ⟨Nat.zero_le _, Nat.zero_le _⟩ dX8_daysFor_21 (fun v_6 M_4 H locs hN hw => ?_)
  obtain ⟨rfl, rfl⟩ := hN
  obtain ⟨tM_7, c_8, hf⟩ := x_vE hf
  refine x_vV C hw hl.1 [.int (112 : Int32), .int v_6] [] (mX7_set l g h_1 c_8) lk_X8_179 h_1 (by decide) rfl (by decide) rfl (Nat.le_of_ble_eq_true rfl) ⟨Nat.zero_le _, Nat.zero_le _⟩ dX8_daysFor_24 (fun M_7 H locs hN hw => ?_)
  obtain rfl := hN
  refine lv_aload_n hx hb dX8_daysFor_27 rfl (lv_at hl 0 rfl) ?_
  refine fg_X8_76 C hw h0 dX8_daysFor_28 ?_
  refine lv_bipush (v := (97 : Int32)) hx hb dX8_daysFor_31 (by decide) ?_
  refine lv_aload_n hx hb dX8_daysFor_33 rfl (lv_at hl 1 rfl) ?_
  refine lv_iconst (v := (2 : Int32)) hx hb dX8_daysFor_34 (by decide) ?_
  obtain ⟨tv_11, tM_9, c_10, hf⟩ := x_bE hf
  refine x_vI C hw hl.1 [.int (2 : Int32)] [.int (97 : Int32), .ref (g.2.2.1 (xr 0 k0 12))] (mX0_isOfKind l g ha1 c_10) lk_X8_187 ha1 (by decide) rfl (by decide) rfl (Nat.le_of_ble_eq_true rfl) ⟨Nat.zero_le _, Nat.zero_le _⟩ dX8_daysFor_35 (fun v_11 M_9 H locs hN hw => ?_)
  obtain ⟨rfl, rfl⟩ := hN
  obtain ⟨tv_14, tM_12, c_13, hf⟩ := x_bE hf
  refine x_nI C hw hl.1 [.int v_11] [.int (97 : Int32), .ref (g.2.2.1 (xr 0 k0 12))] (mX10_oneIf l g c_13) lk_X8_152 (by decide) rfl (Nat.le_of_ble_eq_true rfl) ⟨Nat.zero_le _, Nat.zero_le _⟩ dX8_daysFor_38 (fun v_14 M_12 H locs hN hw => ?_)
  obtain ⟨rfl, rfl⟩ := hN
  obtain ⟨tM_15, c_16, hf⟩ := x_vE hf
  refine x_vV C hw hl.1 [.int (97 : Int32), .int v_14] [] (mX7_set l g h_1 c_16) lk_X8_179 h_1 (by decide) rfl (by decide) rfl (Nat.le_of_ble_eq_true rfl) ⟨Nat.zero_le _, Nat.zero_le _⟩ dX8_daysFor_41 (fun M_15 H locs hN hw => ?_)
  obtain rfl := hN
  refine lv_aload_n hx hb dX8_daysFor_44 rfl (lv_at hl 0 rfl) ?_
  refine fg_X8_76 C hw h0 dX8_daysFor_45 ?_
  refine lv_bipush (v := (107 : Int32)) hx hb dX8_daysFor_48 (by decide) ?_
  refine lv_aload_n hx hb dX8_daysFor_50 rfl (lv_at hl 1 rfl) ?_
  refine fg_X8_188 C hw ha1 dX8_daysFor_51 ?_
  obtain ⟨tM_17, c_18, hf⟩ := x_vE hf
  refine x_vV C hw hl.1 [.int (107 : Int32), .int (M_15 a1 0)] [] (mX7_set l g h_1 c_18) lk_X8_179 h_1 (by decide) rfl (by decide) rfl (Nat.le_of_ble_eq_true rfl) ⟨Nat.zero_le _, Nat.zero_le _⟩ dX8_daysFor_54 (fun M_17 H locs hN hw => ?_)
  obtain rfl := hN
  refine lv_aload_n hx hb dX8_daysFor_57 rfl (lv_at hl 0 rfl) ?_
  refine fg_X8_76 C hw h0 dX8_daysFor_58 ?_
  refine lv_bipush (v := (121 : Int32)) hx hb dX8_daysFor_61 (by decide) ?_
  refine lv_aload_n hx hb dX8_daysFor_63 rfl (lv_at hl 0 rfl) ?_
  refine lv_aload_n hx hb dX8_daysFor_64 rfl (lv_at hl 1 rfl) ?_
  refine fg_X8_175 C hw ha1 dX8_daysFor_65 ?_
  obtain ⟨tv_21, tM_19, c_20, hf⟩ := x_bE hf
  refine x_vI C hw hl.1 [.int (M_17 a1 1)] [.int (121 : Int32), .ref (g.2.2.1 (xr 0 k0 12))] (mX8_youth l g h0 c_20) lk_X8_191 h0 (by decide) rfl (by decide) rfl (Nat.le_of_ble_eq_true rfl) ⟨Nat.zero_le _, Nat.zero_le _⟩ dX8_daysFor_68 (fun v_21 M_19 H locs hN hw => ?_)
  obtain ⟨rfl, rfl⟩ := hN
  obtain ⟨tM_22, c_23, hf⟩ := x_vE hf
  refine x_vV C hw hl.1 [.int (121 : Int32), .int v_21] [] (mX7_set l g h_1 c_23) lk_X8_179 h_1 (by decide) rfl (by decide) rfl (Nat.le_of_ble_eq_true rfl) ⟨Nat.zero_le _, Nat.zero_le _⟩ dX8_daysFor_71 (fun M_22 H locs hN hw => ?_)
  obtain rfl := hN
  refine lv_aload_n hx hb dX8_daysFor_74 rfl (lv_at hl 0 rfl) ?_
  refine fg_X8_76 C hw h0 dX8_daysFor_75 ?_
  refine lv_aload_n hx hb dX8_daysFor_78 rfl (lv_at hl 0 rfl) ?_
  refine fg_X8_69 C hw h0 dX8_daysFor_79 ?_
  have h_24 : x_is 0 (xr 0 k0 11) 3 := x_tr h0 (by decide) (by decide) rfl (by decide)
  refine lv_iconst (v := (0 : Int32)) hx hb dX8_daysFor_82 (by decide) ?_
  obtain ⟨tv_27, tM_25, c_26, hf⟩ := x_bE hf
  refine x_vI C hw hl.1 [.ref (g.2.2.1 (xr 0 k0 11)), .int (0 : Int32)] [] (mX7_workOut l g h_1 h_24 c_26) lk_X8_195 h_1 (by decide) rfl (by decide) rfl (Nat.le_of_ble_eq_true rfl) ⟨Nat.zero_le _, Nat.zero_le _⟩ dX8_daysFor_83 (fun v_27 M_25 H locs hN hw => ?_)
  obtain ⟨rfl, rfl⟩ := hN
  refine lv_aload_n hx hb dX8_daysFor_86 rfl (lv_at hl 0 rfl) ?_
  refine fg_X8_60 C hw h0 dX8_daysFor_87 ?_
  have h_28 : x_is 0 (xr 0 k0 9) 12 := x_tr h0 (by decide) (by decide) rfl (by decide)
  refine lv_iconst (v := (2 : Int32)) hx hb dX8_daysFor_90 (by decide) ?_
  obtain ⟨q_29, hf⟩ := x_gE hf
  refine x_ald C hw h_28 q_29 dX8_daysFor_91 ?_
  refine lv_aload_n hx hb dX8_daysFor_92 rfl (lv_at hl 0 rfl) ?_
  refine fg_X8_60 C hw h0 dX8_daysFor_93 ?_
  refine lv_iconst (v := (3 : Int32)) hx hb dX8_daysFor_96 (by decide) ?_
  obtain ⟨q_30, hf⟩ := x_gE hf
  refine x_ald C hw h_28 q_30 dX8_daysFor_97 ?_
  obtain ⟨tv_33, tM_31, c_32, hf⟩ := x_bE hf
  refine x_nI C hw hl.1 [.int v_27, .int (M_25 (xr 0 k0 9) (2 : Int32).toNatClampNeg), .int (M_25 (xr 0 k0 9) (3 : Int32).toNatClampNeg)] [] (mX10_bounded l g c_32) lk_X8_199 (by decide) rfl (Nat.le_of_ble_eq_true rfl) ⟨Nat.zero_le _, Nat.zero_le _⟩ dX8_daysFor_98 (fun v_33 M_31 H locs hN hw => ?_)
  obtain ⟨rfl, rfl⟩ := hN
  exact ret hf dX8_daysFor_101 hw
def fX8_sumFor (M : xM) (k0 : Nat) (a1 : Int32) (a2 : Int32) (a3 : Int32) : Option (Int32 × xM) := x_b (fX8_earnings M k0 a1 a2 a3) fun v_4 M_2 => x_v (fX7_set M_2 (xr 0 k0 12) (105 : Int32) v_4) fun M_5 => x_b (fX8_valueOf M_5 k0 a1 (1 : Int32) a2 a3) fun v_9 M_7 => x_v (fX7_set M_7 (xr 0 k0 12) (110 : Int32) v_9) fun M_10 => x_b (fX8_valueOf M_10 k0 a1 (2 : Int32) a2 a3) fun v_14 M_12 => x_v (fX7_set M_12 (xr 0 k0 12) (119 : Int32) v_14) fun M_15 => x_b (fX8_valueOf M_15 k0 a1 (3 : Int32) a2 a3) fun v_19 M_17 => x_v (fX7_set M_17 (xr 0 k0 12) (100 : Int32) v_19) fun M_20 => x_g a1 (xn 0 (xr 0 k0 5)) (x_b (fX4_isOfKind M_20 (xr 0 (xr 0 k0 5) a1.toNatClampNeg) (2 : Int32)) fun v_27 M_25 => x_b (fX10_oneIf M_25 v_27) fun v_30 M_28 => x_v (fX7_set M_28 (xr 0 k0 12) (115 : Int32) v_30) fun M_31 => x_b (fX8_youth M_31 k0 a1) fun v_35 M_33 => x_v (fX7_set M_33 (xr 0 k0 12) (121 : Int32) v_35) fun M_36 => x_b (fX7_workOut M_36 (xr 0 k0 12) (xr 0 k0 11) (1 : Int32)) fun v_41 M_39 => x_g (6 : Int32) (xn 0 (xr 0 k0 9)) (x_g (7 : Int32) (xn 0 (xr 0 k0 9)) (x_b (fX10_bounded M_39 v_41 (M_39 (xr 0 k0 9) (6 : Int32).toNatClampNeg) (M_39 (xr 0 k0 9) (7 : Int32).toNatClampNeg)) fun v_47 M_45 => some (v_47, M_45))))
set_option maxRecDepth 100000 in
set_option maxHeartbeats 4000000 in
theorem mX8_sumFor (l : Launch) (g : xG) {k0 : Nat} {a1 : Int32} {a2 : Int32} {a3 : Int32} {r : Int32} {M' : xM} (h0 : x_is 0 k0 8) {M : xM} (hf : fX8_sumFor M k0 a1 a2 a3 = some (r, M')) : x_cI l g 0 yX8_sumFor cX8_sumFor 4 .int 4 99 [.ref (g.2.2.1 k0), .int a1, .int a2, .int a3] M (fun v N => v = r ∧ N = M') := by
  refine x_stI RX8 (by decide) rfl (Nat.le_of_ble_eq_true rfl) ?_
  intro p e s m args below meth c Q ls C hw ret hl
  obtain ⟨hx, hb, hml, hown, hB, -⟩ := id C
  have hl : lv_has ls 4 [(0, .ref (g.2.2.1 k0)), (1, .int a1), (2, .int a2), (3, .int a3)] := hl
  unfold fX8_sumFor at hf
  refine lv_aload_n hx hb dX8_sumFor_0 rfl (lv_at hl 0 rfl) ?_
  refine fg_X8_76 C hw h0 dX8_sumFor_1 ?_
  have h_1 : x_is 0 (xr 0 k0 12) 7 := x_tr h0 (by decide) (by decide) rfl (by decide)
  refine lv_bipush (v := (105 : Int32)) hx hb dX8_sumFor_4 (by decide) ?_
  refine lv_aload_n hx hb dX8_sumFor_6 rfl (lv_at hl 0 rfl) ?_
  refine lv_iload_n hx hb dX8_sumFor_7 rfl (lv_at hl 1 rfl) ?_
  refine lv_iload_n hx hb dX8_sumFor_8 rfl (lv_at hl 2 rfl) ?_
  refine lv_iload_n hx hb dX8_sumFor_9 rfl (lv_at hl 3 rfl) ?_
  obtain ⟨tv_4, tM_2, c_3, hf⟩ := x_bE hf
  refine x_vI C hw hl.1 [.int a1, .int a2, .int a3] [.int (105 : Int32), .ref (g.2.2.1 (xr 0 k0 12))] (mX8_earnings l g h0 c_3) lk_X8_202 h0 (by decide) rfl (by decide) rfl (Nat.le_of_ble_eq_true rfl) ⟨Nat.zero_le _, Nat.zero_le _⟩ dX8_sumFor_10 (fun v_4 M_2 H locs hN hw => ?_)
  obtain ⟨rfl, rfl⟩ := hN
  obtain ⟨tM_5, c_6, hf⟩ := x_vE hf
  refine x_vV C hw hl.1 [.int (105 : Int32), .int v_4] [] (mX7_set l g h_1 c_6) lk_X8_179 h_1 (by decide) rfl (by decide) rfl (Nat.le_of_ble_eq_true rfl) ⟨Nat.zero_le _, Nat.zero_le _⟩ dX8_sumFor_13 (fun M_5 H locs hN hw => ?_)
  obtain rfl := hN
  refine lv_aload_n hx hb dX8_sumFor_16 rfl (lv_at hl 0 rfl) ?_
  refine fg_X8_76 C hw h0 dX8_sumFor_17 ?_
  refine lv_bipush (v := (110 : Int32)) hx hb dX8_sumFor_20 (by decide) ?_
  refine lv_aload_n hx hb dX8_sumFor_22 rfl (lv_at hl 0 rfl) ?_
  refine lv_iload_n hx hb dX8_sumFor_23 rfl (lv_at hl 1 rfl) ?_
  refine lv_iconst (v := (1 : Int32)) hx hb dX8_sumFor_24 (by decide) ?_
  refine lv_iload_n hx hb dX8_sumFor_25 rfl (lv_at hl 2 rfl) ?_
  refine lv_iload_n hx hb dX8_sumFor_26 rfl (lv_at hl 3 rfl) ?_
  obtain ⟨tv_9, tM_7, c_8, hf⟩ := x_bE hf
  refine x_vI C hw hl.1 [.int a1, .int (1 : Int32), .int a2, .int a3] [.int (110 : Int32), .ref (g.2.2.1 (xr 0 k0 12))] (mX8_valueOf l g h0 c_8) lk_X8_135 h0 (by decide) rfl (by decide) rfl (Nat.le_of_ble_eq_true rfl) ⟨Nat.zero_le _, Nat.zero_le _⟩ dX8_sumFor_27 (fun v_9 M_7 H locs hN hw => ?_)
  obtain ⟨rfl, rfl⟩ := hN
  obtain ⟨tM_10, c_11, hf⟩ := x_vE hf
  refine x_vV C hw hl.1 [.int (110 : Int32), .int v_9] [] (mX7_set l g h_1 c_11) lk_X8_179 h_1 (by decide) rfl (by decide) rfl (Nat.le_of_ble_eq_true rfl) ⟨Nat.zero_le _, Nat.zero_le _⟩ dX8_sumFor_30 (fun M_10 H locs hN hw => ?_)
  obtain rfl := hN
  refine lv_aload_n hx hb dX8_sumFor_33 rfl (lv_at hl 0 rfl) ?_
  refine fg_X8_76 C hw h0 dX8_sumFor_34 ?_
  refine lv_bipush (v := (119 : Int32)) hx hb dX8_sumFor_37 (by decide) ?_
  refine lv_aload_n hx hb dX8_sumFor_39 rfl (lv_at hl 0 rfl) ?_
  refine lv_iload_n hx hb dX8_sumFor_40 rfl (lv_at hl 1 rfl) ?_
  refine lv_iconst (v := (2 : Int32)) hx hb dX8_sumFor_41 (by decide) ?_
  refine lv_iload_n hx hb dX8_sumFor_42 rfl (lv_at hl 2 rfl) ?_
  refine lv_iload_n hx hb dX8_sumFor_43 rfl (lv_at hl 3 rfl) ?_
  obtain ⟨tv_14, tM_12, c_13, hf⟩ := x_bE hf
  refine x_vI C hw hl.1 [.int a1, .int (2 : Int32), .int a2, .int a3] [.int (119 : Int32), .ref (g.2.2.1 (xr 0 k0 12))] (mX8_valueOf l g h0 c_13) lk_X8_135 h0 (by decide) rfl (by decide) rfl (Nat.le_of_ble_eq_true rfl) ⟨Nat.zero_le _, Nat.zero_le _⟩ dX8_sumFor_44 (fun v_14 M_12 H locs hN hw => ?_)
  obtain ⟨rfl, rfl⟩ := hN
  obtain ⟨tM_15, c_16, hf⟩ := x_vE hf
  refine x_vV C hw hl.1 [.int (119 : Int32), .int v_14] [] (mX7_set l g h_1 c_16) lk_X8_179 h_1 (by decide) rfl (by decide) rfl (Nat.le_of_ble_eq_true rfl) ⟨Nat.zero_le _, Nat.zero_le _⟩ dX8_sumFor_47 (fun M_15 H locs hN hw => ?_)
  obtain rfl := hN
  refine lv_aload_n hx hb dX8_sumFor_50 rfl (lv_at hl 0 rfl) ?_
  refine fg_X8_76 C hw h0 dX8_sumFor_51 ?_
  refine lv_bipush (v := (100 : Int32)) hx hb dX8_sumFor_54 (by decide) ?_
  refine lv_aload_n hx hb dX8_sumFor_56 rfl (lv_at hl 0 rfl) ?_
  refine lv_iload_n hx hb dX8_sumFor_57 rfl (lv_at hl 1 rfl) ?_
  refine lv_iconst (v := (3 : Int32)) hx hb dX8_sumFor_58 (by decide) ?_
  refine lv_iload_n hx hb dX8_sumFor_59 rfl (lv_at hl 2 rfl) ?_
  refine lv_iload_n hx hb dX8_sumFor_60 rfl (lv_at hl 3 rfl) ?_
  obtain ⟨tv_19, tM_17, c_18, hf⟩ := x_bE hf
  refine x_vI C hw hl.1 [.int a1, .int (3 : Int32), .int a2, .int a3] [.int (100 : Int32), .ref (g.2.2.1 (xr 0 k0 12))] (mX8_valueOf l g h0 c_18) lk_X8_135 h0 (by decide) rfl (by decide) rfl (Nat.le_of_ble_eq_true rfl) ⟨Nat.zero_le _, Nat.zero_le _⟩ dX8_sumFor_61 (fun v_19 M_17 H locs hN hw => ?_)
  obtain ⟨rfl, rfl⟩ := hN
  obtain ⟨tM_20, c_21, hf⟩ := x_vE hf
  refine x_vV C hw hl.1 [.int (100 : Int32), .int v_19] [] (mX7_set l g h_1 c_21) lk_X8_179 h_1 (by decide) rfl (by decide) rfl (Nat.le_of_ble_eq_true rfl) ⟨Nat.zero_le _, Nat.zero_le _⟩ dX8_sumFor_64 (fun M_20 H locs hN hw => ?_)
  obtain rfl := hN
  refine lv_aload_n hx hb dX8_sumFor_67 rfl (lv_at hl 0 rfl) ?_
  refine fg_X8_76 C hw h0 dX8_sumFor_68 ?_
  refine lv_bipush (v := (115 : Int32)) hx hb dX8_sumFor_71 (by decide) ?_
  refine lv_aload_n hx hb dX8_sumFor_73 rfl (lv_at hl 0 rfl) ?_
  refine fg_X8_29 C hw h0 dX8_sumFor_74 ?_
  have h_22 : x_is 0 (xr 0 k0 5) 17 := x_tr h0 (by decide) (by decide) rfl (by decide)
  refine lv_iload_n hx hb dX8_sumFor_77 rfl (lv_at hl 1 rfl) ?_
  obtain ⟨q_23, hf⟩ := x_gE hf
  refine x_rld (t := 5) C hw h_22 (by decide) rfl q_23 dX8_sumFor_78 ?_
  have h_24 : x_is 0 (xr 0 (xr 0 k0 5) a1.toNatClampNeg) 4 := x_ta h_22 (by decide) (x_ilt q_23)
  refine lv_iconst (v := (2 : Int32)) hx hb dX8_sumFor_79 (by decide) ?_
  obtain ⟨tv_27, tM_25, c_26, hf⟩ := x_bE hf
  refine x_vI C hw hl.1 [.int (2 : Int32)] [.int (115 : Int32), .ref (g.2.2.1 (xr 0 k0 12))] (mX4_isOfKind l g h_24 c_26) lk_X8_139 h_24 (by decide) rfl (by decide) rfl (Nat.le_of_ble_eq_true rfl) ⟨Nat.zero_le _, Nat.zero_le _⟩ dX8_sumFor_80 (fun v_27 M_25 H locs hN hw => ?_)
  obtain ⟨rfl, rfl⟩ := hN
  obtain ⟨tv_30, tM_28, c_29, hf⟩ := x_bE hf
  refine x_nI C hw hl.1 [.int v_27] [.int (115 : Int32), .ref (g.2.2.1 (xr 0 k0 12))] (mX10_oneIf l g c_29) lk_X8_152 (by decide) rfl (Nat.le_of_ble_eq_true rfl) ⟨Nat.zero_le _, Nat.zero_le _⟩ dX8_sumFor_83 (fun v_30 M_28 H locs hN hw => ?_)
  obtain ⟨rfl, rfl⟩ := hN
  obtain ⟨tM_31, c_32, hf⟩ := x_vE hf
  refine x_vV C hw hl.1 [.int (115 : Int32), .int v_30] [] (mX7_set l g h_1 c_32) lk_X8_179 h_1 (by decide) rfl (by decide) rfl (Nat.le_of_ble_eq_true rfl) ⟨Nat.zero_le _, Nat.zero_le _⟩ dX8_sumFor_86 (fun M_31 H locs hN hw => ?_)
  obtain rfl := hN
  refine lv_aload_n hx hb dX8_sumFor_89 rfl (lv_at hl 0 rfl) ?_
  refine fg_X8_76 C hw h0 dX8_sumFor_90 ?_
  refine lv_bipush (v := (121 : Int32)) hx hb dX8_sumFor_93 (by decide) ?_
  refine lv_aload_n hx hb dX8_sumFor_95 rfl (lv_at hl 0 rfl) ?_
  refine lv_iload_n hx hb dX8_sumFor_96 rfl (lv_at hl 1 rfl) ?_
  obtain ⟨tv_35, tM_33, c_34, hf⟩ := x_bE hf
  refine x_vI C hw hl.1 [.int a1] [.int (121 : Int32), .ref (g.2.2.1 (xr 0 k0 12))] (mX8_youth l g h0 c_34) lk_X8_191 h0 (by decide) rfl (by decide) rfl (Nat.le_of_ble_eq_true rfl) ⟨Nat.zero_le _, Nat.zero_le _⟩ dX8_sumFor_97 (fun v_35 M_33 H locs hN hw => ?_)
  obtain ⟨rfl, rfl⟩ := hN
  obtain ⟨tM_36, c_37, hf⟩ := x_vE hf
  refine x_vV C hw hl.1 [.int (121 : Int32), .int v_35] [] (mX7_set l g h_1 c_37) lk_X8_179 h_1 (by decide) rfl (by decide) rfl (Nat.le_of_ble_eq_true rfl) ⟨Nat.zero_le _, Nat.zero_le _⟩ dX8_sumFor_100 (fun M_36 H locs hN hw => ?_)
  obtain rfl := hN
  refine lv_aload_n hx hb dX8_sumFor_103 rfl (lv_at hl 0 rfl) ?_
  refine fg_X8_76 C hw h0 dX8_sumFor_104 ?_
  refine lv_aload_n hx hb dX8_sumFor_107 rfl (lv_at hl 0 rfl) ?_
  refine fg_X8_69 C hw h0 dX8_sumFor_108 ?_
  have h_38 : x_is 0 (xr 0 k0 11) 3 := x_tr h0 (by decide) (by decide) rfl (by decide)
  refine lv_iconst (v := (1 : Int32)) hx hb dX8_sumFor_111 (by decide) ?_
  obtain ⟨tv_41, tM_39, c_40, hf⟩ := x_bE hf
  refine x_vI C hw hl.1 [.ref (g.2.2.1 (xr 0 k0 11)), .int (1 : Int32)] [] (mX7_workOut l g h_1 h_38 c_40) lk_X8_195 h_1 (by decide) rfl (by decide) rfl (Nat.le_of_ble_eq_true rfl) ⟨Nat.zero_le _, Nat.zero_le _⟩ dX8_sumFor_112 (fun v_41 M_39 H locs hN hw => ?_)
  obtain ⟨rfl, rfl⟩ := hN
  refine lv_aload_n hx hb dX8_sumFor_115 rfl (lv_at hl 0 rfl) ?_
  refine fg_X8_60 C hw h0 dX8_sumFor_116 ?_
  have h_42 : x_is 0 (xr 0 k0 9) 12 := x_tr h0 (by decide) (by decide) rfl (by decide)
  refine lv_bipush (v := (6 : Int32)) hx hb dX8_sumFor_119 (by decide) ?_
  obtain ⟨q_43, hf⟩ := x_gE hf
  refine x_ald C hw h_42 q_43 dX8_sumFor_121 ?_
  refine lv_aload_n hx hb dX8_sumFor_122 rfl (lv_at hl 0 rfl) ?_
  refine fg_X8_60 C hw h0 dX8_sumFor_123 ?_
  refine lv_bipush (v := (7 : Int32)) hx hb dX8_sumFor_126 (by decide) ?_
  obtain ⟨q_44, hf⟩ := x_gE hf
  refine x_ald C hw h_42 q_44 dX8_sumFor_128 ?_
  obtain ⟨tv_47, tM_45, c_46, hf⟩ := x_bE hf
  refine x_nI C hw hl.1 [.int v_41, .int (M_39 (xr 0 k0 9) (6 : Int32).toNatClampNeg), .int (M_39 (xr 0 k0 9) (7 : Int32).toNatClampNeg)] [] (mX10_bounded l g c_46) lk_X8_199 (by decide) rfl (Nat.le_of_ble_eq_true rfl) ⟨Nat.zero_le _, Nat.zero_le _⟩ dX8_sumFor_129 (fun v_47 M_45 H locs hN hw => ?_)
  obtain ⟨rfl, rfl⟩ := hN
  exact ret hf dX8_sumFor_132 hw
def fX8_hoursFor (M : xM) (k0 : Nat) (a1 : Nat) : Option (Int32 × xM) := x_b (fX2_unpaidDays M a1) fun v_4 M_2 => x_v (fX7_set M_2 (xr 0 k0 12) (117 : Int32) v_4) fun M_5 => x_b (fX8_youth M_5 k0 (M_5 a1 0)) fun v_9 M_7 => x_v (fX7_set M_7 (xr 0 k0 12) (121 : Int32) v_9) fun M_10 => x_b (fX7_workOut M_10 (xr 0 k0 12) (xr 0 k0 11) (2 : Int32)) fun v_15 M_13 => x_b (fX10_bounded M_13 v_15 (0 : Int32) (9999 : Int32)) fun v_18 M_16 => some (v_18, M_16)
set_option maxRecDepth 100000 in
set_option maxHeartbeats 4000000 in
theorem mX8_hoursFor (l : Launch) (g : xG) {k0 : Nat} {a1 : Nat} {r : Int32} {M' : xM} (h0 : x_is 0 k0 8) (ha1 : x_is 0 a1 2) {M : xM} (hf : fX8_hoursFor M k0 a1 = some (r, M')) : x_cI l g 0 yX8_hoursFor cX8_hoursFor 2 .int 3 68 [.ref (g.2.2.1 k0), .ref (g.2.2.1 a1)] M (fun v N => v = r ∧ N = M') := by
  refine x_stI RX8 (by decide) rfl (Nat.le_of_ble_eq_true rfl) ?_
  intro p e s m args below meth c Q ls C hw ret hl
  obtain ⟨hx, hb, hml, hown, hB, -⟩ := id C
  have hl : lv_has ls 2 [(0, .ref (g.2.2.1 k0)), (1, .ref (g.2.2.1 a1))] := hl
  unfold fX8_hoursFor at hf
  refine lv_aload_n hx hb dX8_hoursFor_0 rfl (lv_at hl 0 rfl) ?_
  refine fg_X8_76 C hw h0 dX8_hoursFor_1 ?_
  have h_1 : x_is 0 (xr 0 k0 12) 7 := x_tr h0 (by decide) (by decide) rfl (by decide)
  refine lv_bipush (v := (117 : Int32)) hx hb dX8_hoursFor_4 (by decide) ?_
  refine lv_aload_n hx hb dX8_hoursFor_6 rfl (lv_at hl 1 rfl) ?_
  obtain ⟨tv_4, tM_2, c_3, hf⟩ := x_bE hf
  refine x_vI C hw hl.1 [] [.int (117 : Int32), .ref (g.2.2.1 (xr 0 k0 12))] (mX2_unpaidDays l g ha1 c_3) lk_X8_205 ha1 (by decide) rfl (by decide) rfl (Nat.le_of_ble_eq_true rfl) ⟨Nat.zero_le _, Nat.zero_le _⟩ dX8_hoursFor_7 (fun v_4 M_2 H locs hN hw => ?_)
  obtain ⟨rfl, rfl⟩ := hN
  obtain ⟨tM_5, c_6, hf⟩ := x_vE hf
  refine x_vV C hw hl.1 [.int (117 : Int32), .int v_4] [] (mX7_set l g h_1 c_6) lk_X8_179 h_1 (by decide) rfl (by decide) rfl (Nat.le_of_ble_eq_true rfl) ⟨Nat.zero_le _, Nat.zero_le _⟩ dX8_hoursFor_10 (fun M_5 H locs hN hw => ?_)
  obtain rfl := hN
  refine lv_aload_n hx hb dX8_hoursFor_13 rfl (lv_at hl 0 rfl) ?_
  refine fg_X8_76 C hw h0 dX8_hoursFor_14 ?_
  refine lv_bipush (v := (121 : Int32)) hx hb dX8_hoursFor_17 (by decide) ?_
  refine lv_aload_n hx hb dX8_hoursFor_19 rfl (lv_at hl 0 rfl) ?_
  refine lv_aload_n hx hb dX8_hoursFor_20 rfl (lv_at hl 1 rfl) ?_
  refine fg_X8_172 C hw ha1 dX8_hoursFor_21 ?_
  obtain ⟨tv_9, tM_7, c_8, hf⟩ := x_bE hf
  refine x_vI C hw hl.1 [.int (M_5 a1 0)] [.int (121 : Int32), .ref (g.2.2.1 (xr 0 k0 12))] (mX8_youth l g h0 c_8) lk_X8_191 h0 (by decide) rfl (by decide) rfl (Nat.le_of_ble_eq_true rfl) ⟨Nat.zero_le _, Nat.zero_le _⟩ dX8_hoursFor_24 (fun v_9 M_7 H locs hN hw => ?_)
  obtain ⟨rfl, rfl⟩ := hN
  obtain ⟨tM_10, c_11, hf⟩ := x_vE hf
  refine x_vV C hw hl.1 [.int (121 : Int32), .int v_9] [] (mX7_set l g h_1 c_11) lk_X8_179 h_1 (by decide) rfl (by decide) rfl (Nat.le_of_ble_eq_true rfl) ⟨Nat.zero_le _, Nat.zero_le _⟩ dX8_hoursFor_27 (fun M_10 H locs hN hw => ?_)
  obtain rfl := hN
  refine lv_aload_n hx hb dX8_hoursFor_30 rfl (lv_at hl 0 rfl) ?_
  refine fg_X8_76 C hw h0 dX8_hoursFor_31 ?_
  refine lv_aload_n hx hb dX8_hoursFor_34 rfl (lv_at hl 0 rfl) ?_
  refine fg_X8_69 C hw h0 dX8_hoursFor_35 ?_
  have h_12 : x_is 0 (xr 0 k0 11) 3 := x_tr h0 (by decide) (by decide) rfl (by decide)
  refine lv_iconst (v := (2 : Int32)) hx hb dX8_hoursFor_38 (by decide) ?_
  obtain ⟨tv_15, tM_13, c_14, hf⟩ := x_bE hf
  refine x_vI C hw hl.1 [.ref (g.2.2.1 (xr 0 k0 11)), .int (2 : Int32)] [] (mX7_workOut l g h_1 h_12 c_14) lk_X8_195 h_1 (by decide) rfl (by decide) rfl (Nat.le_of_ble_eq_true rfl) ⟨Nat.zero_le _, Nat.zero_le _⟩ dX8_hoursFor_39 (fun v_15 M_13 H locs hN hw => ?_)
  obtain ⟨rfl, rfl⟩ := hN
  refine lv_iconst (v := (0 : Int32)) hx hb dX8_hoursFor_42 (by decide) ?_
  refine lv_sipush (v := (9999 : Int32)) hx hb dX8_hoursFor_43 (by decide) ?_
  obtain ⟨tv_18, tM_16, c_17, hf⟩ := x_bE hf
  refine x_nI C hw hl.1 [.int v_15, .int (0 : Int32), .int (9999 : Int32)] [] (mX10_bounded l g c_17) lk_X8_199 (by decide) rfl (Nat.le_of_ble_eq_true rfl) ⟨Nat.zero_le _, Nat.zero_le _⟩ dX8_hoursFor_46 (fun v_18 M_16 H locs hN hw => ?_)
  obtain ⟨rfl, rfl⟩ := hN
  exact ret hf dX8_hoursFor_49 hw
def fX8_joinedShare (M : xM) (k0 : Nat) (a1 : Int32) : Option (Int32 × xM) := x_g (4 : Int32) (xn 0 (xr 0 k0 9)) (x_d (100 : Int32) (some (((a1 * (M (xr 0 k0 9) (4 : Int32).toNatClampNeg)) / (100 : Int32)), M)))
set_option maxRecDepth 100000 in
set_option maxHeartbeats 4000000 in
theorem mX8_joinedShare (l : Launch) (g : xG) {k0 : Nat} {a1 : Int32} {r : Int32} {M' : xM} (h0 : x_is 0 k0 8) {M : xM} (hf : fX8_joinedShare M k0 a1 = some (r, M')) : x_cI l g 0 yX8_joinedShare cX8_joinedShare 2 .int 0 0 [.ref (g.2.2.1 k0), .int a1] M (fun v N => v = r ∧ N = M') := by
  refine x_stI RX8 (by decide) rfl (Nat.le_of_ble_eq_true rfl) ?_
  intro p e s m args below meth c Q ls C hw ret hl
  obtain ⟨hx, hb, hml, hown, hB, -⟩ := id C
  have hl : lv_has ls 2 [(0, .ref (g.2.2.1 k0)), (1, .int a1)] := hl
  unfold fX8_joinedShare at hf
  refine lv_iload_n hx hb dX8_joinedShare_0 rfl (lv_at hl 1 rfl) ?_
  refine lv_aload_n hx hb dX8_joinedShare_1 rfl (lv_at hl 0 rfl) ?_
  refine fg_X8_60 C hw h0 dX8_joinedShare_2 ?_
  have h_1 : x_is 0 (xr 0 k0 9) 12 := x_tr h0 (by decide) (by decide) rfl (by decide)
  refine lv_iconst (v := (4 : Int32)) hx hb dX8_joinedShare_5 (by decide) ?_
  obtain ⟨q_2, hf⟩ := x_gE hf
  refine x_ald C hw h_1 q_2 dX8_joinedShare_6 ?_
  refine lv_imul hx hb dX8_joinedShare_7 ?_
  refine lv_bipush (v := (100 : Int32)) hx hb dX8_joinedShare_8 (by decide) ?_
  obtain ⟨q_3, hf⟩ := x_dE hf
  refine lv_idiv hx hb dX8_joinedShare_10 q_3 ?_
  exact ret hf dX8_joinedShare_11 hw
