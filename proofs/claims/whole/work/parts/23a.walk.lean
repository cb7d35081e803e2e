noncomputable def fX6_takesNumberOrName (M : xM) (a1 : Int32) : Option (Int32 × xM) := x_l ((M 11 3) - (M 11 2)) fun x2_1 => x_b (fX9_isDigit M a1) fun v_4 M_2 => x_l (fun (M_6 : xM) => x_l (x_up M_6 12 3 ((M_6 12 3) + (1 : Int32))) fun M_7 => x_v (fX6_endPart M_7) fun M_8 => some ((1 : Int32), M_8)) fun k79_5 => x_l (fun (M_11 : xM) => if x2_1 = (1 : Int32) then (if (xs_ix (xs_nm (M_11 3 6)) ((a1.toUInt32 % 65536).toInt32)) < 0 then (some ((0 : Int32), M_11)) else (x_v (fX3_write M_11 (-a1)) fun M_14 => k79_5 M_14)) else (some ((0 : Int32), M_11))) fun k45_10 => if v_4 = 0 then (k45_10 M_2) else (if (5 : Int32) < x2_1 then (k45_10 M_2) else (x_b (fX9_number M_2) fun v_20 M_18 => x_v (fX3_write M_18 v_20) fun M_21 => k79_5 M_21))
set_option maxRecDepth 100000 in
set_option maxHeartbeats 4000000 in
theorem mX6_takesNumberOrName (l : Launch) (g : xG) {a1 : Int32} {r : Int32} {M' : xM}  {M : xM} (hf : fX6_takesNumberOrName M a1 = some (r, M')) : x_cI l g 0 yX6_takesNumberOrName cX6_takesNumberOrName 3 .boolean 4 91 [.ref (g.2.2.1 3), .int a1] M (fun v N => v = r ∧ N = M') := by
  refine x_stZ RX6 (by decide) rfl (Nat.le_of_ble_eq_true rfl) ?_
  intro p e s m args below meth c Q ls C hw ret hl
  obtain ⟨hx, hb, hml, hown, hB, -⟩ := id C
  have hl : lv_has ls 3 [(0, .ref (g.2.2.1 3)), (1, .int a1)] := hl
  unfold fX6_takesNumberOrName at hf
  refine lv_aload_n hx hb dX6_takesNumberOrName_0 rfl (lv_at hl 0 rfl) ?_
  refine fg_X6_12 (k2 := 11) C hw ic0_3 rfl dX6_takesNumberOrName_1 ?_
  refine fg_X6_118 C hw ic0_11 dX6_takesNumberOrName_4 ?_
  refine lv_aload_n hx hb dX6_takesNumberOrName_7 rfl (lv_at hl 0 rfl) ?_
  refine fg_X6_12 (k2 := 11) C hw ic0_3 rfl dX6_takesNumberOrName_8 ?_
  refine fg_X6_62 C hw ic0_11 dX6_takesNumberOrName_11 ?_
  refine lv_isub hx hb dX6_takesNumberOrName_14 ?_
  refine lv_topi (fun x2_1 ex2_1 => ?_)
  have hf := x_lE ex2_1 hf
  refine lv_istore_n (lv' := [(2, .int x2_1), (0, .ref (g.2.2.1 3)), (1, .int a1)]) hx hb dX6_takesNumberOrName_15 rfl hl (by decide) rfl (fun ls hl => ?_)
  refine lv_iload_n hx hb dX6_takesNumberOrName_16 rfl (lv_at hl 2 rfl) ?_
  obtain ⟨tv_4, tM_2, c_3, hf⟩ := x_bE hf
  refine x_sI C hw hl.1 [.int a1] [] (mX9_isDigit l g c_3) lk_X6_121 (by decide) rfl (Nat.le_of_ble_eq_true rfl) ⟨Nat.zero_le _, Nat.zero_le _⟩ dX6_takesNumberOrName_17 (fun v_4 M_2 H locs hN hw => ?_)
  obtain ⟨rfl, rfl⟩ := hN
  obtain ⟨k79_5, ek79_5, hf⟩ := x_jE hf
  have hk79_5 : ∀ (H : Heap) (locs : List Loc) (M_6 : xM)  (ls : Array Slot) , lv_has ls 3 [(0, .ref (g.2.2.1 3))] → x_w g 0 s H locs M_6 → k79_5 M_6 = some (r, M') → W p l e (x_rm 4 91) s m args below meth c H locs 0 0 Q (F0 m 79 ls []) := by
    intro H locs M_6  ls  hl hw hf
    rw [ek79_5] at hf
    refine lv_aload_n hx hb dX6_takesNumberOrName_79 rfl (lv_at hl 0 rfl) ?_
    refine fg_X6_21 (k2 := 12) C hw ic0_3 rfl dX6_takesNumberOrName_80 ?_
    refine lv_dup hx hb dX6_takesNumberOrName_83 rfl ?_
    refine fg_X6_77 C hw ic0_12 dX6_takesNumberOrName_84 ?_
    refine lv_iconst (v := (1 : Int32)) hx hb dX6_takesNumberOrName_87 (by decide) ?_
    refine lv_iadd hx hb dX6_takesNumberOrName_88 ?_
    refine fp_X6_77 C hw ic0_12 dX6_takesNumberOrName_89 (fun H locs hw => ?_)
    obtain ⟨M_7, eM_7⟩ : ∃ z, z = (x_up M_6 12 3 ((M_6 12 3) + (1 : Int32))) := ⟨_, rfl⟩
    rw [← eM_7] at hw
    have hf := x_lE eM_7 hf
    refine lv_aload_n hx hb dX6_takesNumberOrName_92 rfl (lv_at hl 0 rfl) ?_
    obtain ⟨tM_8, c_9, hf⟩ := x_vE hf
    refine x_vV C hw hl.1 [] [] (mX6_endPart l g c_9) lk_X6_139 ic0_3 (by decide) rfl (by decide) rfl (Nat.le_of_ble_eq_true rfl) ⟨Nat.zero_le _, Nat.zero_le _⟩ dX6_takesNumberOrName_93 (fun M_8 H locs hN hw => ?_)
    obtain rfl := hN
    refine lv_iconst (v := (1 : Int32)) hx hb dX6_takesNumberOrName_96 (by decide) ?_
    exact ret ((x_zl1 _).trans hf) dX6_takesNumberOrName_97 hw
  obtain ⟨k45_10, ek45_10, hf⟩ := x_jE hf
  have hk45_10 : ∀ (H : Heap) (locs : List Loc) (M_11 : xM)  (ls : Array Slot) , lv_has ls 3 [(2, .int x2_1), (0, .ref (g.2.2.1 3)), (1, .int a1)] → x_w g 0 s H locs M_11 → k45_10 M_11 = some (r, M') → W p l e (x_rm 4 91) s m args below meth c H locs 0 0 Q (F0 m 45 ls []) := by
    intro H locs M_11  ls  hl hw hf
    rw [ek45_10] at hf
    refine lv_iload_n hx hb dX6_takesNumberOrName_45 rfl (lv_at hl 0 rfl) ?_
    refine lv_iconst (v := (1 : Int32)) hx hb dX6_takesNumberOrName_46 (by decide) ?_
    refine lv_icmp_ne (tgt := 77) hx hb dX6_takesNumberOrName_47 (by decide) (fun q_12 => ?_) (fun q_12 => ?_)
    · have hf := x_iN hf q_12
      refine lv_iconst (v := (0 : Int32)) hx hb dX6_takesNumberOrName_77 (by decide) ?_
      exact ret ((x_zl0 _).trans hf) dX6_takesNumberOrName_78 hw
    · have hf := x_iP hf q_12
      refine lv_aload_n hx hb dX6_takesNumberOrName_50 rfl (lv_at hl 1 rfl) ?_
      refine fg_X6_39 C hw ic0_3 dX6_takesNumberOrName_51 ?_
      refine x_sR C hw hl.1 [.int (M_11 3 6)] [] (mJ_namesOf l g) lkt_RX6_130 (by decide) rfl (Nat.le_of_ble_eq_true rfl) ⟨Nat.zero_le _, Nat.zero_le _⟩ dX6_takesNumberOrName_54 (fun H locs hw => ?_)
      refine lv_iload_n hx hb dX6_takesNumberOrName_57 rfl (lv_at hl 2 rfl) ?_
      refine lv_i2c hx hb dX6_takesNumberOrName_58 rfl ?_
      refine x_tK C hw hl.1 [.int ((a1.toUInt32 % 65536).toInt32)] [] (xs_nm_lt _) (mJ_indexOf l g (xs_nm_lt _)) lkt_RX6_133 (by decide) rfl (Nat.le_of_ble_eq_true rfl) ⟨Nat.zero_le _, Nat.zero_le _⟩ dX6_takesNumberOrName_59 (fun H locs hw => ?_)
      refine lv_if_lt (tgt := 77) hx hb dX6_takesNumberOrName_62 (by decide) (fun q_13 => ?_) (fun q_13 => ?_)
      · have hf := x_iP hf q_13
        refine lv_iconst (v := (0 : Int32)) hx hb dX6_takesNumberOrName_77 (by decide) ?_
        exact ret ((x_zl0 _).trans hf) dX6_takesNumberOrName_78 hw
      · have hf := x_iN hf q_13
        refine lv_aload_n hx hb dX6_takesNumberOrName_65 rfl (lv_at hl 1 rfl) ?_
        refine fg_X6_21 (k2 := 12) C hw ic0_3 rfl dX6_takesNumberOrName_66 ?_
        refine lv_iload_n hx hb dX6_takesNumberOrName_69 rfl (lv_at hl 2 rfl) ?_
        refine lv_ineg hx hb dX6_takesNumberOrName_70 ?_
        obtain ⟨tM_14, c_15, hf⟩ := x_vE hf
        refine x_vV C hw hl.1 [.int (-a1)] [] (mX3_write l g c_15) lk_X6_127 ic0_12 (by decide) rfl (by decide) rfl (Nat.le_of_ble_eq_true rfl) ⟨Nat.zero_le _, Nat.zero_le _⟩ dX6_takesNumberOrName_71 (fun M_14 H locs hN hw => ?_)
        obtain rfl := hN
        refine lv_goto (tgt := 79) hx hb dX6_takesNumberOrName_74 (by decide) ?_
        exact hk79_5 _ _ _ _ (lv_sub hl [1] rfl) hw hf
  refine lv_if_eq (tgt := 45) hx hb dX6_takesNumberOrName_20 (by decide) (fun q_16 => ?_) (fun q_16 => ?_)
  · have hf := x_iP hf q_16
    exact hk45_10 _ _ _ _ (lv_sub hl [0, 1, 2] rfl) hw hf
  · have hf := x_iN hf q_16
    refine lv_iload_n hx hb dX6_takesNumberOrName_23 rfl (lv_at hl 0 rfl) ?_
    refine lv_iconst (v := (5 : Int32)) hx hb dX6_takesNumberOrName_24 (by decide) ?_
    refine lv_icmp_gt (tgt := 45) hx hb dX6_takesNumberOrName_25 (by decide) (fun q_17 => ?_) (fun q_17 => ?_)
    · have hf := x_iP hf q_17
      exact hk45_10 _ _ _ _ (lv_sub hl [0, 1, 2] rfl) hw hf
    · have hf := x_iN hf q_17
      refine lv_aload_n hx hb dX6_takesNumberOrName_28 rfl (lv_at hl 1 rfl) ?_
      refine fg_X6_21 (k2 := 12) C hw ic0_3 rfl dX6_takesNumberOrName_29 ?_
      refine lv_aload_n hx hb dX6_takesNumberOrName_32 rfl (lv_at hl 1 rfl) ?_
      refine fg_X6_12 (k2 := 11) C hw ic0_3 rfl dX6_takesNumberOrName_33 ?_
      obtain ⟨tv_20, tM_18, c_19, hf⟩ := x_bE hf
      refine x_vI C hw hl.1 [] [.ref (g.2.2.1 12)] (mX9_number l g c_19) lk_X6_124 ic0_11 (by decide) rfl (by decide) rfl (Nat.le_of_ble_eq_true rfl) ⟨Nat.zero_le _, Nat.zero_le _⟩ dX6_takesNumberOrName_36 (fun v_20 M_18 H locs hN hw => ?_)
      obtain ⟨rfl, rfl⟩ := hN
      obtain ⟨tM_21, c_22, hf⟩ := x_vE hf
      refine x_vV C hw hl.1 [.int v_20] [] (mX3_write l g c_22) lk_X6_127 ic0_12 (by decide) rfl (by decide) rfl (Nat.le_of_ble_eq_true rfl) ⟨Nat.zero_le _, Nat.zero_le _⟩ dX6_takesNumberOrName_39 (fun M_21 H locs hN hw => ?_)
      obtain rfl := hN
      refine lv_goto (tgt := 79) hx hb dX6_takesNumberOrName_42 (by decide) ?_
      exact hk79_5 _ _ _ _ (lv_sub hl [1] rfl) hw hf
noncomputable def fX6_takesPart (M : xM) (a1 : Int32) : Option (Int32 × xM) := if a1 = (40 : Int32) then (if (M 3 4) < (8 : Int32) then (x_l (x_up M 3 4 ((M 3 4) + (1 : Int32))) fun M_11 => x_v (fX6_hold M_11 a1) fun M_12 => some ((1 : Int32), M_12)) else (some ((0 : Int32), M))) else (if a1 = (33 : Int32) then (if (M 3 5) < (8 : Int32) then (x_l (x_up M 3 5 ((M 3 5) + (1 : Int32))) fun M_7 => x_v (fX6_hold M_7 a1) fun M_8 => some ((1 : Int32), M_8)) else (some ((0 : Int32), M))) else (x_b (fX6_takesNumberOrName M a1) fun v_5 M_3 => x_z v_5 (some (v_5, M_3))))
set_option maxRecDepth 100000 in
set_option maxHeartbeats 4000000 in
theorem mX6_takesPart (l : Launch) (g : xG) {a1 : Int32} {r : Int32} {M' : xM}  {M : xM} (hf : fX6_takesPart M a1 = some (r, M')) : x_cI l g 0 yX6_takesPart cX6_takesPart 2 .boolean 5 113 [.ref (g.2.2.1 3), .int a1] M (fun v N => v = r ∧ N = M') := by
  refine x_stZ RX6 (by decide) rfl (Nat.le_of_ble_eq_true rfl) ?_
  intro p e s m args below meth c Q ls C hw ret hl
  obtain ⟨hx, hb, hml, hown, hB, -⟩ := id C
  have hl : lv_has ls 2 [(0, .ref (g.2.2.1 3)), (1, .int a1)] := hl
  unfold fX6_takesPart at hf
  refine lv_iload_n hx hb dX6_takesPart_0 rfl (lv_at hl 1 rfl) ?_
  refine lv_bipush (v := (40 : Int32)) hx hb dX6_takesPart_1 (by decide) ?_
  refine lv_icmp_ne (tgt := 34) hx hb dX6_takesPart_3 (by decide) (fun q_1 => ?_) (fun q_1 => ?_)
  · have hf := x_iN hf q_1
    refine lv_iload_n hx hb dX6_takesPart_34 rfl (lv_at hl 1 rfl) ?_
    refine lv_bipush (v := (33 : Int32)) hx hb dX6_takesPart_35 (by decide) ?_
    refine lv_icmp_ne (tgt := 68) hx hb dX6_takesPart_37 (by decide) (fun q_2 => ?_) (fun q_2 => ?_)
    · have hf := x_iN hf q_2
      refine lv_aload_n hx hb dX6_takesPart_68 rfl (lv_at hl 0 rfl) ?_
      refine lv_iload_n hx hb dX6_takesPart_69 rfl (lv_at hl 1 rfl) ?_
      obtain ⟨tv_5, tM_3, c_4, hf⟩ := x_bE hf
      refine x_vI C hw hl.1 [.int a1] [] (mX6_takesNumberOrName l g c_4) lk_X6_115 ic0_3 (by decide) rfl (by decide) rfl (Nat.le_of_ble_eq_true rfl) ⟨Nat.zero_le _, Nat.zero_le _⟩ dX6_takesPart_70 (fun v_5 M_3 H locs hN hw => ?_)
      obtain ⟨rfl, rfl⟩ := hN
      exact ret hf dX6_takesPart_73 hw
    · have hf := x_iP hf q_2
      refine lv_aload_n hx hb dX6_takesPart_40 rfl (lv_at hl 0 rfl) ?_
      refine fg_X6_36 C hw ic0_3 dX6_takesPart_41 ?_
      refine lv_bipush (v := (8 : Int32)) hx hb dX6_takesPart_44 (by decide) ?_
      refine lv_icmp_lt (tgt := 51) hx hb dX6_takesPart_46 (by decide) (fun q_6 => ?_) (fun q_6 => ?_)
      · have hf := x_iP hf q_6
        refine lv_aload_n hx hb dX6_takesPart_51 rfl (lv_at hl 0 rfl) ?_
        refine lv_dup hx hb dX6_takesPart_52 rfl ?_
        refine fg_X6_36 C hw ic0_3 dX6_takesPart_53 ?_
        refine lv_iconst (v := (1 : Int32)) hx hb dX6_takesPart_56 (by decide) ?_
        refine lv_iadd hx hb dX6_takesPart_57 ?_
        refine fp_X6_36 C hw ic0_3 dX6_takesPart_58 (fun H locs hw => ?_)
        obtain ⟨M_7, eM_7⟩ : ∃ z, z = (x_up M 3 5 ((M 3 5) + (1 : Int32))) := ⟨_, rfl⟩
        rw [← eM_7] at hw
        have hf := x_lE eM_7 hf
        refine lv_aload_n hx hb dX6_takesPart_61 rfl (lv_at hl 0 rfl) ?_
        refine lv_iload_n hx hb dX6_takesPart_62 rfl (lv_at hl 1 rfl) ?_
        obtain ⟨tM_8, c_9, hf⟩ := x_vE hf
        refine x_vV C hw hl.1 [.int a1] [] (mX6_hold l g c_9) lk_X6_112 ic0_3 (by decide) rfl (by decide) rfl (Nat.le_of_ble_eq_true rfl) ⟨Nat.zero_le _, Nat.zero_le _⟩ dX6_takesPart_63 (fun M_8 H locs hN hw => ?_)
        obtain rfl := hN
        refine lv_iconst (v := (1 : Int32)) hx hb dX6_takesPart_66 (by decide) ?_
        exact ret ((x_zl1 _).trans hf) dX6_takesPart_67 hw
      · have hf := x_iN hf q_6
        refine lv_iconst (v := (0 : Int32)) hx hb dX6_takesPart_49 (by decide) ?_
        exact ret ((x_zl0 _).trans hf) dX6_takesPart_50 hw
  · have hf := x_iP hf q_1
    refine lv_aload_n hx hb dX6_takesPart_6 rfl (lv_at hl 0 rfl) ?_
    refine fg_X6_33 C hw ic0_3 dX6_takesPart_7 ?_
    refine lv_bipush (v := (8 : Int32)) hx hb dX6_takesPart_10 (by decide) ?_
    refine lv_icmp_lt (tgt := 17) hx hb dX6_takesPart_12 (by decide) (fun q_10 => ?_) (fun q_10 => ?_)
    · have hf := x_iP hf q_10
      refine lv_aload_n hx hb dX6_takesPart_17 rfl (lv_at hl 0 rfl) ?_
      refine lv_dup hx hb dX6_takesPart_18 rfl ?_
      refine fg_X6_33 C hw ic0_3 dX6_takesPart_19 ?_
      refine lv_iconst (v := (1 : Int32)) hx hb dX6_takesPart_22 (by decide) ?_
      refine lv_iadd hx hb dX6_takesPart_23 ?_
      refine fp_X6_33 C hw ic0_3 dX6_takesPart_24 (fun H locs hw => ?_)
      obtain ⟨M_11, eM_11⟩ : ∃ z, z = (x_up M 3 4 ((M 3 4) + (1 : Int32))) := ⟨_, rfl⟩
      rw [← eM_11] at hw
      have hf := x_lE eM_11 hf
      refine lv_aload_n hx hb dX6_takesPart_27 rfl (lv_at hl 0 rfl) ?_
      refine lv_iload_n hx hb dX6_takesPart_28 rfl (lv_at hl 1 rfl) ?_
      obtain ⟨tM_12, c_13, hf⟩ := x_vE hf
      refine x_vV C hw hl.1 [.int a1] [] (mX6_hold l g c_13) lk_X6_112 ic0_3 (by decide) rfl (by decide) rfl (Nat.le_of_ble_eq_true rfl) ⟨Nat.zero_le _, Nat.zero_le _⟩ dX6_takesPart_29 (fun M_12 H locs hN hw => ?_)
      obtain rfl := hN
      refine lv_iconst (v := (1 : Int32)) hx hb dX6_takesPart_32 (by decide) ?_
      exact ret ((x_zl1 _).trans hf) dX6_takesPart_33 hw
    · have hf := x_iN hf q_10
      refine lv_iconst (v := (0 : Int32)) hx hb dX6_takesPart_15 (by decide) ?_
      exact ret ((x_zl0 _).trans hf) dX6_takesPart_16 hw
noncomputable def fX9_says_L20 (a1 : Nat) : Nat → xM → Int32 → Option (Int32 × xM)
  | 0, _, _ => none
  | n_4 + 1, M_3, x2_2 => if (xs_len a1) ≤ x2_2 then (some ((1 : Int32), M_3)) else (x_g ((M_3 11 2) + x2_2) 120 (x_g x2_2 (xs_n a1) (if (M_3 14 ((M_3 11 2) + x2_2).toNatClampNeg) = (xs_b a1 x2_2.toNatClampNeg) then (x_l (x2_2 + (1 : Int32)) fun x2_10 => fX9_says_L20 a1 n_4 M_3 x2_10) else (some ((0 : Int32), M_3)))))
noncomputable def fX9_says (M : xM) (a1 : Nat) : Option (Int32 × xM) := if ((M 11 3) - (M 11 2)) = (xs_len a1) then (fX9_says_L20 a1 x_FU M (0 : Int32)) else (some ((0 : Int32), M))
set_option maxRecDepth 100000 in
set_option maxHeartbeats 4000000 in
theorem mX9_says (l : Launch) (g : xG) {a1 : Nat} {r : Int32} {M' : xM} (ha1 : a1 < 6) {M : xM} (hf : fX9_says M a1 = some (r, M')) : x_cI l g 0 yX9_says cX9_says 3 .boolean 4 85 [.ref (g.2.2.1 11), .ref (g.2.2.2 (1 + a1))] M (fun v N => v = r ∧ N = M') := by
  refine x_stZ RX9 (by decide) rfl (Nat.le_of_ble_eq_true rfl) ?_
  intro p e s m args below meth c Q ls C hw ret hl
  obtain ⟨hx, hb, hml, hown, hB, -⟩ := id C
  have hl : lv_has ls 3 [(0, .ref (g.2.2.1 11)), (1, .ref (g.2.2.2 (1 + a1)))] := hl
  unfold fX9_says at hf
  refine lv_aload_n hx hb dX9_says_0 rfl (lv_at hl 0 rfl) ?_
  refine fg_X9_22 C hw ic0_11 dX9_says_1 ?_
  refine lv_aload_n hx hb dX9_says_4 rfl (lv_at hl 0 rfl) ?_
  refine fg_X9_19 C hw ic0_11 dX9_says_5 ?_
  refine lv_isub hx hb dX9_says_8 ?_
  refine lv_aload_n hx hb dX9_says_9 rfl (lv_at hl 1 rfl) ?_
  refine x_tK C hw hl.1 [] [.int ((M 11 3) - (M 11 2))] ha1 (mJ_length l g ha1) lkt_RX9_47 (by decide) rfl (Nat.le_of_ble_eq_true rfl) ⟨Nat.zero_le _, Nat.zero_le _⟩ dX9_says_10 (fun H locs hw => ?_)
  refine lv_icmp_eq (tgt := 18) hx hb dX9_says_13 (by decide) (fun q_1 => ?_) (fun q_1 => ?_)
  · have hf := x_iP hf q_1
    refine lv_iconst (v := (0 : Int32)) hx hb dX9_says_18 (by decide) ?_
    refine lv_istore_n (lv' := [(2, .int (0 : Int32)), (0, .ref (g.2.2.1 11)), (1, .ref (g.2.2.2 (1 + a1)))]) hx hb dX9_says_19 rfl hl (by decide) rfl (fun ls hl => ?_)
    have hL_11 : ∀ (n_4 : Nat) (H : Heap) (locs : List Loc) (M_3 : xM) (x2_2 : Int32) (ls : Array Slot) , lv_has ls 3 [(0, .ref (g.2.2.1 11)), (1, .ref (g.2.2.2 (1 + a1))), (2, .int x2_2)] → x_w g 0 s H locs M_3 → fX9_says_L20 a1 n_4 M_3 x2_2 = some (r, M') → W p l e (x_rm 4 85) s m args below meth c H locs 0 0 Q (F0 m 20 ls []) := by
      intro n_4
      induction n_4 with
      | zero =>
        intro H locs M_3 x2_2 ls  hl hw hf
        rw [fX9_says_L20] at hf
        cases hf
      | succ n_4 ih_5 =>
        intro H locs M_3 x2_2 ls  hl hw hf
        rw [fX9_says_L20] at hf
        refine lv_iload_n hx hb dX9_says_20 rfl (lv_at hl 2 rfl) ?_
        refine lv_aload_n hx hb dX9_says_21 rfl (lv_at hl 1 rfl) ?_
        refine x_tK C hw hl.1 [] [.int x2_2] ha1 (mJ_length l g ha1) lkt_RX9_47 (by decide) rfl (Nat.le_of_ble_eq_true rfl) ⟨Nat.zero_le _, Nat.zero_le _⟩ dX9_says_22 (fun H locs hw => ?_)
        refine lv_icmp_ge (tgt := 55) hx hb dX9_says_25 (by decide) (fun q_6 => ?_) (fun q_6 => ?_)
        · have hf := x_iP hf q_6
          refine lv_iconst (v := (1 : Int32)) hx hb dX9_says_55 (by decide) ?_
          exact ret ((x_zl1 _).trans hf) dX9_says_56 hw
        · have hf := x_iN hf q_6
          refine lv_aload_n hx hb dX9_says_28 rfl (lv_at hl 0 rfl) ?_
          refine fg_X9_9 (k2 := 14) C hw ic0_11 rfl dX9_says_29 ?_
          refine lv_aload_n hx hb dX9_says_32 rfl (lv_at hl 0 rfl) ?_
          refine fg_X9_19 C hw ic0_11 dX9_says_33 ?_
          refine lv_iload_n hx hb dX9_says_36 rfl (lv_at hl 2 rfl) ?_
          refine lv_iadd hx hb dX9_says_37 ?_
          obtain ⟨q_7, hf⟩ := x_gE hf
          refine x_ald C hw ic0_14 q_7 rfl dX9_says_38 ?_
          refine lv_aload_n hx hb dX9_says_39 rfl (lv_at hl 1 rfl) ?_
          refine lv_iload_n hx hb dX9_says_40 rfl (lv_at hl 2 rfl) ?_
          obtain ⟨q_8, hf⟩ := x_gE hf
          refine x_tK C hw hl.1 [.int x2_2] [.int (M_3 14 ((M_3 11 2) + x2_2).toNatClampNeg)] ha1 (mJ_charAt l g ha1 q_8) lkt_RX9_51 (by decide) rfl (Nat.le_of_ble_eq_true rfl) ⟨Nat.zero_le _, Nat.zero_le _⟩ dX9_says_41 (fun H locs hw => ?_)
          refine lv_icmp_eq (tgt := 49) hx hb dX9_says_44 (by decide) (fun q_9 => ?_) (fun q_9 => ?_)
          · have hf := x_iP hf q_9
            obtain ⟨x2_10, ex2_10⟩ : ∃ z : Int32, z = (x2_2 + (1 : Int32)) := ⟨_, rfl⟩
            have hf := x_lE ex2_10 hf
            refine lv_iinc (v := x2_10) (lv' := [(2, .int x2_10), (0, .ref (g.2.2.1 11)), (1, .ref (g.2.2.2 (1 + a1)))]) hx hb dX9_says_49 hl (k := 2) rfl (by rw [ex2_10]; rfl) (by decide) rfl (fun ls hl => ?_)
            refine lv_goto (tgt := 20) hx hb dX9_says_52 (by decide) ?_
            exact ih_5 _ _ _ _ _ (lv_sub hl [1, 2, 0] rfl) hw hf
          · have hf := x_iN hf q_9
            refine lv_iconst (v := (0 : Int32)) hx hb dX9_says_47 (by decide) ?_
            exact ret ((x_zl0 _).trans hf) dX9_says_48 hw
    exact hL_11 _ _ _ _ _ _ (lv_sub hl [1, 2, 0] rfl) hw hf
  · have hf := x_iN hf q_1
    refine lv_iconst (v := (0 : Int32)) hx hb dX9_says_16 (by decide) ?_
    exact ret ((x_zl0 _).trans hf) dX9_says_17 hw
noncomputable def fX6_takesHeading (M : xM)  : Option (Int32 × xM) := if 0 < (M 3 4) then (some ((0 : Int32), M)) else (if (2 : Int32) ≤ (M 3 6) then (some ((0 : Int32), M)) else (x_b (fX9_says M (xs_hd ((M 3 6) + (1 : Int32)))) fun v_5 M_3 => if v_5 = 0 then (some ((0 : Int32), M_3)) else (x_l (fun (M_8 : xM) => x_l (x_up M_8 3 6 ((M_8 3 6) + (1 : Int32))) fun M_9 => x_l (x_up M_9 3 7 (1 : Int32)) fun M_10 => some ((1 : Int32), M_10)) fun k48_7 => if (M_3 3 6) = (-1 : Int32) then (k48_7 M_3) else (x_v (fX6_endSection M_3) fun M_12 => k48_7 M_12))))
set_option maxRecDepth 100000 in
set_option maxHeartbeats 4000000 in
theorem mX6_takesHeading (l : Launch) (g : xG)  {r : Int32} {M' : xM}  {M : xM} (hf : fX6_takesHeading M  = some (r, M')) : x_cI l g 0 yX6_takesHeading cX6_takesHeading 1 .boolean 5 107 [.ref (g.2.2.1 3)] M (fun v N => v = r ∧ N = M') := by
  refine x_stZ RX6 (by decide) rfl (Nat.le_of_ble_eq_true rfl) ?_
  intro p e s m args below meth c Q ls C hw ret hl
  obtain ⟨hx, hb, hml, hown, hB, -⟩ := id C
  have hl : lv_has ls 1 [(0, .ref (g.2.2.1 3))] := hl
  unfold fX6_takesHeading at hf
  refine lv_aload_n hx hb dX6_takesHeading_0 rfl (lv_at hl 0 rfl) ?_
  refine fg_X6_33 C hw ic0_3 dX6_takesHeading_1 ?_
  refine lv_if_gt (tgt := 34) hx hb dX6_takesHeading_4 (by decide) (fun q_1 => ?_) (fun q_1 => ?_)
  · have hf := x_iP hf q_1
    refine lv_iconst (v := (0 : Int32)) hx hb dX6_takesHeading_34 (by decide) ?_
    exact ret ((x_zl0 _).trans hf) dX6_takesHeading_35 hw
  · have hf := x_iN hf q_1
    refine lv_aload_n hx hb dX6_takesHeading_7 rfl (lv_at hl 0 rfl) ?_
    refine fg_X6_39 C hw ic0_3 dX6_takesHeading_8 ?_
    refine lv_iconst (v := (2 : Int32)) hx hb dX6_takesHeading_11 (by decide) ?_
    refine lv_icmp_ge (tgt := 34) hx hb dX6_takesHeading_12 (by decide) (fun q_2 => ?_) (fun q_2 => ?_)
    · have hf := x_iP hf q_2
      refine lv_iconst (v := (0 : Int32)) hx hb dX6_takesHeading_34 (by decide) ?_
      exact ret ((x_zl0 _).trans hf) dX6_takesHeading_35 hw
    · have hf := x_iN hf q_2
      refine lv_aload_n hx hb dX6_takesHeading_15 rfl (lv_at hl 0 rfl) ?_
      refine fg_X6_12 (k2 := 11) C hw ic0_3 rfl dX6_takesHeading_16 ?_
      refine lv_aload_n hx hb dX6_takesHeading_19 rfl (lv_at hl 0 rfl) ?_
      refine fg_X6_39 C hw ic0_3 dX6_takesHeading_20 ?_
      refine lv_iconst (v := (1 : Int32)) hx hb dX6_takesHeading_23 (by decide) ?_
      refine lv_iadd hx hb dX6_takesHeading_24 ?_
      refine x_sR C hw hl.1 [.int ((M 3 6) + (1 : Int32))] [.ref (g.2.2.1 11)] (mJ_heading l g) lkt_RX6_97 (by decide) rfl (Nat.le_of_ble_eq_true rfl) ⟨Nat.zero_le _, Nat.zero_le _⟩ dX6_takesHeading_25 (fun H locs hw => ?_)
      obtain ⟨tv_5, tM_3, c_4, hf⟩ := x_bE hf
      refine x_vI C hw hl.1 [.ref (g.2.2.2 (1 + (xs_hd ((M 3 6) + (1 : Int32)))))] [] (mX9_says l g (xs_hd_lt _) c_4) lk_X6_101 ic0_11 (by decide) rfl (by decide) rfl (Nat.le_of_ble_eq_true rfl) ⟨Nat.zero_le _, Nat.zero_le _⟩ dX6_takesHeading_28 (fun v_5 M_3 H locs hN hw => ?_)
      obtain ⟨rfl, rfl⟩ := hN
      refine lv_if_ne (tgt := 36) hx hb dX6_takesHeading_31 (by decide) (fun q_6 => ?_) (fun q_6 => ?_)
      · have hf := x_iN hf q_6
        refine lv_aload_n hx hb dX6_takesHeading_36 rfl (lv_at hl 0 rfl) ?_
        refine fg_X6_39 C hw ic0_3 dX6_takesHeading_37 ?_
        refine lv_iconst (v := (-1 : Int32)) hx hb dX6_takesHeading_40 (by decide) ?_
        obtain ⟨k48_7, ek48_7, hf⟩ := x_jE hf
        have hk48_7 : ∀ (H : Heap) (locs : List Loc) (M_8 : xM)  (ls : Array Slot) , lv_has ls 1 [(0, .ref (g.2.2.1 3))] → x_w g 0 s H locs M_8 → k48_7 M_8 = some (r, M') → W p l e (x_rm 5 107) s m args below meth c H locs 0 0 Q (F0 m 48 ls []) := by
          intro H locs M_8  ls  hl hw hf
          rw [ek48_7] at hf
          refine lv_aload_n hx hb dX6_takesHeading_48 rfl (lv_at hl 0 rfl) ?_
          refine lv_dup hx hb dX6_takesHeading_49 rfl ?_
          refine fg_X6_39 C hw ic0_3 dX6_takesHeading_50 ?_
          refine lv_iconst (v := (1 : Int32)) hx hb dX6_takesHeading_53 (by decide) ?_
          refine lv_iadd hx hb dX6_takesHeading_54 ?_
          refine fp_X6_39 C hw ic0_3 dX6_takesHeading_55 (fun H locs hw => ?_)
          obtain ⟨M_9, eM_9⟩ : ∃ z, z = (x_up M_8 3 6 ((M_8 3 6) + (1 : Int32))) := ⟨_, rfl⟩
          rw [← eM_9] at hw
          have hf := x_lE eM_9 hf
          refine lv_aload_n hx hb dX6_takesHeading_58 rfl (lv_at hl 0 rfl) ?_
          refine lv_iconst (v := (1 : Int32)) hx hb dX6_takesHeading_59 (by decide) ?_
          refine fp_X6_42 C hw (⟨rfl, rfl⟩ : _ ∧ _) ic0_3 dX6_takesHeading_60 (fun H locs hw => ?_)
          obtain ⟨M_10, eM_10⟩ : ∃ z, z = (x_up M_9 3 7 (1 : Int32)) := ⟨_, rfl⟩
          rw [← eM_10] at hw
          have hf := x_lE eM_10 hf
          refine lv_iconst (v := (1 : Int32)) hx hb dX6_takesHeading_63 (by decide) ?_
          exact ret ((x_zl1 _).trans hf) dX6_takesHeading_64 hw
        refine lv_icmp_eq (tgt := 48) hx hb dX6_takesHeading_41 (by decide) (fun q_11 => ?_) (fun q_11 => ?_)
        · have hf := x_iP hf q_11
          exact hk48_7 _ _ _ _ (lv_sub hl [0] rfl) hw hf
        · have hf := x_iN hf q_11
          refine lv_aload_n hx hb dX6_takesHeading_44 rfl (lv_at hl 0 rfl) ?_
          obtain ⟨tM_12, c_13, hf⟩ := x_vE hf
          refine x_vV C hw hl.1 [] [] (mX6_endSection l g c_13) lk_X6_68 ic0_3 (by decide) rfl (by decide) rfl (Nat.le_of_ble_eq_true rfl) ⟨Nat.zero_le _, Nat.zero_le _⟩ dX6_takesHeading_45 (fun M_12 H locs hN hw => ?_)
          obtain rfl := hN
          exact hk48_7 _ _ _ _ (lv_sub hl [0] rfl) hw hf
      · have hf := x_iP hf q_6
        refine lv_iconst (v := (0 : Int32)) hx hb dX6_takesHeading_34 (by decide) ?_
        exact ret ((x_zl0 _).trans hf) dX6_takesHeading_35 hw
noncomputable def fX6_takes (M : xM)  : Option (Int32 × xM) := if (M 3 7) = 0 then (x_b (fX9_isWord M) fun v_4 M_2 => if v_4 = 0 then (x_l (fun (M_7 : xM) => some ((0 : Int32), M_7)) fun k60_6 => if (M_2 3 6) = (-1 : Int32) then (k60_6 M_2) else (x_b (fX9_first M_2) fun v_11 M_9 => x_b (fX6_takesSign M_9 v_11) fun v_14 M_12 => if v_14 = 0 then (k60_6 M_12) else (some ((1 : Int32), M_12)))) else (x_b (fX6_takesHeading M_2) fun v_18 M_16 => x_z v_18 (some (v_18, M_16)))) else (x_b (fX9_first M) fun v_21 M_19 => x_b (fX6_takesPart M_19 v_21) fun v_24 M_22 => x_z v_24 (some (v_24, M_22)))
set_option maxRecDepth 100000 in
set_option maxHeartbeats 4000000 in
theorem mX6_takes (l : Launch) (g : xG)  {r : Int32} {M' : xM}  {M : xM} (hf : fX6_takes M  = some (r, M')) : x_cI l g 0 yX6_takes cX6_takes 1 .boolean 6 134 [.ref (g.2.2.1 3)] M (fun v N => v = r ∧ N = M') := by
  refine x_stZ RX6 (by decide) rfl (Nat.le_of_ble_eq_true rfl) ?_
  intro p e s m args below meth c Q ls C hw ret hl
  obtain ⟨hx, hb, hml, hown, hB, -⟩ := id C
  have hl : lv_has ls 1 [(0, .ref (g.2.2.1 3))] := hl
  unfold fX6_takes at hf
  refine lv_aload_n hx hb dX6_takes_0 rfl (lv_at hl 0 rfl) ?_
  refine fg_X6_42 C hw ic0_3 dX6_takes_1 ?_
  refine lv_if_eq (tgt := 19) hx hb dX6_takes_4 (by decide) (fun q_1 => ?_) (fun q_1 => ?_)
  · have hf := x_iP hf q_1
    refine lv_aload_n hx hb dX6_takes_19 rfl (lv_at hl 0 rfl) ?_
    refine fg_X6_12 (k2 := 11) C hw ic0_3 rfl dX6_takes_20 ?_
    obtain ⟨tv_4, tM_2, c_3, hf⟩ := x_bE hf
    refine x_vI C hw hl.1 [] [] (mX9_isWord l g c_3) lk_X6_88 ic0_11 (by decide) rfl (by decide) rfl (Nat.le_of_ble_eq_true rfl) ⟨Nat.zero_le _, Nat.zero_le _⟩ dX6_takes_23 (fun v_4 M_2 H locs hN hw => ?_)
    obtain ⟨rfl, rfl⟩ := hN
    refine lv_if_eq (tgt := 34) hx hb dX6_takes_26 (by decide) (fun q_5 => ?_) (fun q_5 => ?_)
    · have hf := x_iP hf q_5
      refine lv_aload_n hx hb dX6_takes_34 rfl (lv_at hl 0 rfl) ?_
      refine fg_X6_39 C hw ic0_3 dX6_takes_35 ?_
      refine lv_iconst (v := (-1 : Int32)) hx hb dX6_takes_38 (by decide) ?_
      obtain ⟨k60_6, ek60_6, hf⟩ := x_jE hf
      have hk60_6 : ∀ (H : Heap) (locs : List Loc) (M_7 : xM)  (ls : Array Slot) , lv_has ls 1 [] → x_w g 0 s H locs M_7 → k60_6 M_7 = some (r, M') → W p l e (x_rm 6 134) s m args below meth c H locs 0 0 Q (F0 m 60 ls []) := by
        intro H locs M_7  ls  hl hw hf
        rw [ek60_6] at hf
        refine lv_iconst (v := (0 : Int32)) hx hb dX6_takes_60 (by decide) ?_
        exact ret ((x_zl0 _).trans hf) dX6_takes_61 hw
      refine lv_icmp_eq (tgt := 60) hx hb dX6_takes_39 (by decide) (fun q_8 => ?_) (fun q_8 => ?_)
      · have hf := x_iP hf q_8
        exact hk60_6 _ _ _ _ (lv_sub hl [] rfl) hw hf
      · have hf := x_iN hf q_8
        refine lv_aload_n hx hb dX6_takes_42 rfl (lv_at hl 0 rfl) ?_
        refine lv_aload_n hx hb dX6_takes_43 rfl (lv_at hl 0 rfl) ?_
        refine fg_X6_12 (k2 := 11) C hw ic0_3 rfl dX6_takes_44 ?_
        obtain ⟨tv_11, tM_9, c_10, hf⟩ := x_bE hf
        refine x_vI C hw hl.1 [] [.ref (g.2.2.1 3)] (mX9_first l g c_10) lk_X6_80 ic0_11 (by decide) rfl (by decide) rfl (Nat.le_of_ble_eq_true rfl) ⟨Nat.zero_le _, Nat.zero_le _⟩ dX6_takes_47 (fun v_11 M_9 H locs hN hw => ?_)
        obtain ⟨rfl, rfl⟩ := hN
        obtain ⟨tv_14, tM_12, c_13, hf⟩ := x_bE hf
        refine x_vI C hw hl.1 [.int v_11] [] (mX6_takesSign l g c_13) lk_X6_94 ic0_3 (by decide) rfl (by decide) rfl (Nat.le_of_ble_eq_true rfl) ⟨Nat.zero_le _, Nat.zero_le _⟩ dX6_takes_50 (fun v_14 M_12 H locs hN hw => ?_)
        obtain ⟨rfl, rfl⟩ := hN
        refine lv_if_eq (tgt := 60) hx hb dX6_takes_53 (by decide) (fun q_15 => ?_) (fun q_15 => ?_)
        · have hf := x_iP hf q_15
          exact hk60_6 _ _ _ _ (lv_sub hl [] rfl) hw hf
        · have hf := x_iN hf q_15
          refine lv_iconst (v := (1 : Int32)) hx hb dX6_takes_56 (by decide) ?_
          refine lv_goto (tgt := 61) hx hb dX6_takes_57 (by decide) ?_
          exact ret ((x_zl1 _).trans hf) dX6_takes_61 hw
    · have hf := x_iN hf q_5
      refine lv_aload_n hx hb dX6_takes_29 rfl (lv_at hl 0 rfl) ?_
      obtain ⟨tv_18, tM_16, c_17, hf⟩ := x_bE hf
      refine x_vI C hw hl.1 [] [] (mX6_takesHeading l g c_17) lk_X6_91 ic0_3 (by decide) rfl (by decide) rfl (Nat.le_of_ble_eq_true rfl) ⟨Nat.zero_le _, Nat.zero_le _⟩ dX6_takes_30 (fun v_18 M_16 H locs hN hw => ?_)
      obtain ⟨rfl, rfl⟩ := hN
      exact ret hf dX6_takes_33 hw
  · have hf := x_iN hf q_1
    refine lv_aload_n hx hb dX6_takes_7 rfl (lv_at hl 0 rfl) ?_
    refine lv_aload_n hx hb dX6_takes_8 rfl (lv_at hl 0 rfl) ?_
    refine fg_X6_12 (k2 := 11) C hw ic0_3 rfl dX6_takes_9 ?_
    obtain ⟨tv_21, tM_19, c_20, hf⟩ := x_bE hf
    refine x_vI C hw hl.1 [] [.ref (g.2.2.1 3)] (mX9_first l g c_20) lk_X6_80 ic0_11 (by decide) rfl (by decide) rfl (Nat.le_of_ble_eq_true rfl) ⟨Nat.zero_le _, Nat.zero_le _⟩ dX6_takes_12 (fun v_21 M_19 H locs hN hw => ?_)
    obtain ⟨rfl, rfl⟩ := hN
    obtain ⟨tv_24, tM_22, c_23, hf⟩ := x_bE hf
    refine x_vI C hw hl.1 [.int v_21] [] (mX6_takesPart l g c_23) lk_X6_84 ic0_3 (by decide) rfl (by decide) rfl (Nat.le_of_ble_eq_true rfl) ⟨Nat.zero_le _, Nat.zero_le _⟩ dX6_takes_15 (fun v_24 M_22 H locs hN hw => ?_)
    obtain ⟨rfl, rfl⟩ := hN
    exact ret hf dX6_takes_18 hw
noncomputable def fX6_findFault_L6 (k63_3 : xM → Option (Int32 × xM)) (k29_12 : xM → Option (Int32 × xM)) (k49_14 : xM → Option (Int32 × xM)) : Nat → xM → Int32 → Option (Int32 × xM)
  | 0, _, _ => none
  | n_18 + 1, M_17, x1_16 => if (120 : Int32) < x1_16 then (k63_3 M_17) else (x_v (fX9_goOn M_17) fun M_21 => x_b (fX9_isAtEnd M_21) fun v_25 M_23 => if v_25 = 0 then (x_b (fX9_isGlued M_23) fun v_29 M_27 => if v_29 = 0 then (x_b (fX6_takes M_27) fun v_33 M_31 => if v_33 = 0 then (k49_14 M_31) else (x_l (x1_16 + (1 : Int32)) fun x1_35 => fX6_findFault_L6 k63_3 k29_12 k49_14 n_18 M_31 x1_35)) else (k49_14 M_27)) else (k29_12 M_23))
noncomputable def fX6_findFault (M : xM)  : Option (Int32 × xM) := x_v (fX6_begin M) fun M_1 => x_l (fun (M_4 : xM) => x_l (fun (M_6 : xM) => some ((M_6 11 1), M_6)) fun k85_5 => if (M_4 3 6) = (2 : Int32) then (if (M_4 3 7) = 0 then (if (M_4 3 4) ≤ 0 then (x_v (fX6_endSection M_4) fun M_10 => some ((-1 : Int32), M_10)) else (k85_5 M_4)) else (k85_5 M_4)) else (k85_5 M_4)) fun k63_3 => x_l (fun (M_13 : xM) => k63_3 M_13) fun k29_12 => x_l (fun (M_15 : xM) => some ((M_15 11 2), M_15)) fun k49_14 => fX6_findFault_L6 k63_3 k29_12 k49_14 x_FU M_1 (0 : Int32)
set_option maxRecDepth 100000 in
set_option maxHeartbeats 4000000 in
theorem mX6_findFault (l : Launch) (g : xG)  {r : Int32} {M' : xM}  {M : xM} (hf : fX6_findFault M  = some (r, M')) : x_cI l g 0 yX6_findFault cX6_findFault 2 .int 7 154 [.ref (g.2.2.1 3)] M (fun v N => v = r ∧ N = M') := by
  refine x_stI RX6 (by decide) rfl (Nat.le_of_ble_eq_true rfl) ?_
  intro p e s m args below meth c Q ls C hw ret hl
  obtain ⟨hx, hb, hml, hown, hB, -⟩ := id C
  have hl : lv_has ls 2 [(0, .ref (g.2.2.1 3))] := hl
  unfold fX6_findFault at hf
  refine lv_aload_n hx hb dX6_findFault_0 rfl (lv_at hl 0 rfl) ?_
  obtain ⟨tM_1, c_2, hf⟩ := x_vE hf
  refine x_vV C hw hl.1 [] [] (mX6_begin l g c_2) lk_X6_46 ic0_3 (by decide) rfl (by decide) rfl (Nat.le_of_ble_eq_true rfl) ⟨Nat.zero_le _, Nat.zero_le _⟩ dX6_findFault_1 (fun M_1 H locs hN hw => ?_)
  obtain rfl := hN
  refine lv_iconst (v := (0 : Int32)) hx hb dX6_findFault_4 (by decide) ?_
  refine lv_istore_n (lv' := [(1, .int (0 : Int32)), (0, .ref (g.2.2.1 3))]) hx hb dX6_findFault_5 rfl hl (by decide) rfl (fun ls hl => ?_)
  obtain ⟨k63_3, ek63_3, hf⟩ := x_jE hf
  have hk63_3 : ∀ (H : Heap) (locs : List Loc) (M_4 : xM)  (ls : Array Slot) , lv_has ls 2 [(0, .ref (g.2.2.1 3))] → x_w g 0 s H locs M_4 → k63_3 M_4 = some (r, M') → W p l e (x_rm 7 154) s m args below meth c H locs 0 0 Q (F0 m 63 ls []) := by
    intro H locs M_4  ls  hl hw hf
    rw [ek63_3] at hf
    refine lv_aload_n hx hb dX6_findFault_63 rfl (lv_at hl 0 rfl) ?_
    refine fg_X6_39 C hw ic0_3 dX6_findFault_64 ?_
    refine lv_iconst (v := (2 : Int32)) hx hb dX6_findFault_67 (by decide) ?_
    obtain ⟨k85_5, ek85_5, hf⟩ := x_jE hf
    have hk85_5 : ∀ (H : Heap) (locs : List Loc) (M_6 : xM)  (ls : Array Slot) , lv_has ls 2 [(0, .ref (g.2.2.1 3))] → x_w g 0 s H locs M_6 → k85_5 M_6 = some (r, M') → W p l e (x_rm 7 154) s m args below meth c H locs 0 0 Q (F0 m 85 ls []) := by
      intro H locs M_6  ls  hl hw hf
      rw [ek85_5] at hf
      refine lv_aload_n hx hb dX6_findFault_85 rfl (lv_at hl 0 rfl) ?_
      refine fg_X6_12 (k2 := 11) C hw ic0_3 rfl dX6_findFault_86 ?_
      refine fg_X6_65 C hw ic0_11 dX6_findFault_89 ?_
      exact ret hf dX6_findFault_92 hw
    refine lv_icmp_ne (tgt := 85) hx hb dX6_findFault_68 (by decide) (fun q_7 => ?_) (fun q_7 => ?_)
    · have hf := x_iN hf q_7
      exact hk85_5 _ _ _ _ (lv_sub hl [0] rfl) hw hf
    · have hf := x_iP hf q_7
      refine lv_aload_n hx hb dX6_findFault_71 rfl (lv_at hl 0 rfl) ?_
      refine fg_X6_42 C hw ic0_3 dX6_findFault_72 ?_
      refine lv_if_ne (tgt := 85) hx hb dX6_findFault_75 (by decide) (fun q_8 => ?_) (fun q_8 => ?_)
      · have hf := x_iN hf q_8
        exact hk85_5 _ _ _ _ (lv_sub hl [0] rfl) hw hf
      · have hf := x_iP hf q_8
        refine lv_aload_n hx hb dX6_findFault_78 rfl (lv_at hl 0 rfl) ?_
        refine fg_X6_33 C hw ic0_3 dX6_findFault_79 ?_
        refine lv_if_le (tgt := 93) hx hb dX6_findFault_82 (by decide) (fun q_9 => ?_) (fun q_9 => ?_)
        · have hf := x_iP hf q_9
          refine lv_aload_n hx hb dX6_findFault_93 rfl (lv_at hl 0 rfl) ?_
          obtain ⟨tM_10, c_11, hf⟩ := x_vE hf
          refine x_vV C hw hl.1 [] [] (mX6_endSection l g c_11) lk_X6_68 ic0_3 (by decide) rfl (by decide) rfl (Nat.le_of_ble_eq_true rfl) ⟨Nat.zero_le _, Nat.zero_le _⟩ dX6_findFault_94 (fun M_10 H locs hN hw => ?_)
          obtain rfl := hN
          refine lv_iconst (v := (-1 : Int32)) hx hb dX6_findFault_97 (by decide) ?_
          exact ret hf dX6_findFault_98 hw
        · have hf := x_iN hf q_9
          exact hk85_5 _ _ _ _ (lv_sub hl [0] rfl) hw hf
  obtain ⟨k29_12, ek29_12, hf⟩ := x_jE hf
  have hk29_12 : ∀ (H : Heap) (locs : List Loc) (M_13 : xM)  (ls : Array Slot) , lv_has ls 2 [(0, .ref (g.2.2.1 3))] → x_w g 0 s H locs M_13 → k29_12 M_13 = some (r, M') → W p l e (x_rm 7 154) s m args below meth c H locs 0 0 Q (F0 m 29 ls []) := by
    intro H locs M_13  ls  hl hw hf
    rw [ek29_12] at hf
    refine lv_goto (tgt := 63) hx hb dX6_findFault_29 (by decide) ?_
    exact hk63_3 _ _ _ _ (lv_sub hl [0] rfl) hw hf
  obtain ⟨k49_14, ek49_14, hf⟩ := x_jE hf
  have hk49_14 : ∀ (H : Heap) (locs : List Loc) (M_15 : xM)  (ls : Array Slot) , lv_has ls 2 [(0, .ref (g.2.2.1 3))] → x_w g 0 s H locs M_15 → k49_14 M_15 = some (r, M') → W p l e (x_rm 7 154) s m args below meth c H locs 0 0 Q (F0 m 49 ls []) := by
    intro H locs M_15  ls  hl hw hf
    rw [ek49_14] at hf
    refine lv_aload_n hx hb dX6_findFault_49 rfl (lv_at hl 0 rfl) ?_
    refine fg_X6_12 (k2 := 11) C hw ic0_3 rfl dX6_findFault_50 ?_
    refine fg_X6_62 C hw ic0_11 dX6_findFault_53 ?_
    exact ret hf dX6_findFault_56 hw
  have hL_36 : ∀ (n_18 : Nat) (H : Heap) (locs : List Loc) (M_17 : xM) (x1_16 : Int32) (ls : Array Slot) , lv_has ls 2 [(0, .ref (g.2.2.1 3)), (1, .int x1_16)] → x_w g 0 s H locs M_17 → fX6_findFault_L6 k63_3 k29_12 k49_14 n_18 M_17 x1_16 = some (r, M') → W p l e (x_rm 7 154) s m args below meth c H locs 0 0 Q (F0 m 6 ls []) := by
    intro n_18
    induction n_18 with
    | zero =>
      intro H locs M_17 x1_16 ls  hl hw hf
      rw [fX6_findFault_L6] at hf
      cases hf
    | succ n_18 ih_19 =>
      intro H locs M_17 x1_16 ls  hl hw hf
      rw [fX6_findFault_L6] at hf
      refine lv_iload_n hx hb dX6_findFault_6 rfl (lv_at hl 1 rfl) ?_
      refine lv_bipush (v := (120 : Int32)) hx hb dX6_findFault_7 (by decide) ?_
      refine lv_icmp_gt (tgt := 63) hx hb dX6_findFault_9 (by decide) (fun q_20 => ?_) (fun q_20 => ?_)
      · have hf := x_iP hf q_20
        exact hk63_3 _ _ _ _ (lv_sub hl [0] rfl) hw hf
      · have hf := x_iN hf q_20
        refine lv_aload_n hx hb dX6_findFault_12 rfl (lv_at hl 0 rfl) ?_
        refine fg_X6_12 (k2 := 11) C hw ic0_3 rfl dX6_findFault_13 ?_
        obtain ⟨tM_21, c_22, hf⟩ := x_vE hf
        refine x_vV C hw hl.1 [] [] (mX9_goOn l g c_22) lk_X6_49 ic0_11 (by decide) rfl (by decide) rfl (Nat.le_of_ble_eq_true rfl) ⟨Nat.zero_le _, Nat.zero_le _⟩ dX6_findFault_16 (fun M_21 H locs hN hw => ?_)
        obtain rfl := hN
        refine lv_aload_n hx hb dX6_findFault_19 rfl (lv_at hl 0 rfl) ?_
        refine fg_X6_12 (k2 := 11) C hw ic0_3 rfl dX6_findFault_20 ?_
        obtain ⟨tv_25, tM_23, c_24, hf⟩ := x_bE hf
        refine x_vI C hw hl.1 [] [] (mX9_isAtEnd l g c_24) lk_X6_52 ic0_11 (by decide) rfl (by decide) rfl (Nat.le_of_ble_eq_true rfl) ⟨Nat.zero_le _, Nat.zero_le _⟩ dX6_findFault_23 (fun v_25 M_23 H locs hN hw => ?_)
        obtain ⟨rfl, rfl⟩ := hN
        refine lv_if_eq (tgt := 32) hx hb dX6_findFault_26 (by decide) (fun q_26 => ?_) (fun q_26 => ?_)
        · have hf := x_iP hf q_26
          refine lv_aload_n hx hb dX6_findFault_32 rfl (lv_at hl 0 rfl) ?_
          refine fg_X6_12 (k2 := 11) C hw ic0_3 rfl dX6_findFault_33 ?_
          obtain ⟨tv_29, tM_27, c_28, hf⟩ := x_bE hf
          refine x_vI C hw hl.1 [] [] (mX9_isGlued l g c_28) lk_X6_56 ic0_11 (by decide) rfl (by decide) rfl (Nat.le_of_ble_eq_true rfl) ⟨Nat.zero_le _, Nat.zero_le _⟩ dX6_findFault_36 (fun v_29 M_27 H locs hN hw => ?_)
          obtain ⟨rfl, rfl⟩ := hN
          refine lv_if_ne (tgt := 49) hx hb dX6_findFault_39 (by decide) (fun q_30 => ?_) (fun q_30 => ?_)
          · have hf := x_iN hf q_30
            exact hk49_14 _ _ _ _ (lv_sub hl [0] rfl) hw hf
          · have hf := x_iP hf q_30
            refine lv_aload_n hx hb dX6_findFault_42 rfl (lv_at hl 0 rfl) ?_
            obtain ⟨tv_33, tM_31, c_32, hf⟩ := x_bE hf
            refine x_vI C hw hl.1 [] [] (mX6_takes l g c_32) lk_X6_59 ic0_3 (by decide) rfl (by decide) rfl (Nat.le_of_ble_eq_true rfl) ⟨Nat.zero_le _, Nat.zero_le _⟩ dX6_findFault_43 (fun v_33 M_31 H locs hN hw => ?_)
            obtain ⟨rfl, rfl⟩ := hN
            refine lv_if_ne (tgt := 57) hx hb dX6_findFault_46 (by decide) (fun q_34 => ?_) (fun q_34 => ?_)
            · have hf := x_iN hf q_34
              obtain ⟨x1_35, ex1_35⟩ : ∃ z : Int32, z = (x1_16 + (1 : Int32)) := ⟨_, rfl⟩
              have hf := x_lE ex1_35 hf
              refine lv_iinc (v := x1_35) (lv' := [(1, .int x1_35), (0, .ref (g.2.2.1 3))]) hx hb dX6_findFault_57 hl (k := 1) rfl (by rw [ex1_35]; rfl) (by decide) rfl (fun ls hl => ?_)
              refine lv_goto (tgt := 6) hx hb dX6_findFault_60 (by decide) ?_
              exact ih_19 _ _ _ _ _ (lv_sub hl [1, 0] rfl) hw hf
            · have hf := x_iP hf q_34
              exact hk49_14 _ _ _ _ (lv_sub hl [0] rfl) hw hf
        · have hf := x_iN hf q_26
          exact hk29_12 _ _ _ _ (lv_sub hl [0] rfl) hw hf
  exact hL_36 _ _ _ _ _ _ (lv_sub hl [1, 0] rfl) hw hf
noncomputable def fX10_law (M : xM)  : Option (Int32 × xM) := x_b (fX6_findFault M) fun v_3 M_1 => x_l (x_up M_1 11 1 (0 : Int32)) fun M_4 => if v_3 = (-1 : Int32) then (x_v (fX3_become M_4 25 12) fun M_6 => some ((M_6 25 3), M_6)) else (some (((-100 : Int32) - v_3), M_4))
set_option maxRecDepth 100000 in
set_option maxHeartbeats 4000000 in
theorem mX10_law (l : Launch) (g : xG)  {r : Int32} {M' : xM}  {M : xM} (hf : fX10_law M  = some (r, M')) : x_cI l g 0 yX10_law cX10_law 2 .int 8 175 [.ref (g.2.2.1 0)] M (fun v N => v = r ∧ N = M') := by
  refine x_stI RX10 (by decide) rfl (Nat.le_of_ble_eq_true rfl) ?_
  intro p e s m args below meth c Q ls C hw ret hl
  obtain ⟨hx, hb, hml, hown, hB, -⟩ := id C
  have hl : lv_has ls 2 [(0, .ref (g.2.2.1 0))] := hl
  unfold fX10_law at hf
  refine lv_aload_n hx hb dX10_law_0 rfl (lv_at hl 0 rfl) ?_
  refine fg_X10_26 (k2 := 3) C hw ic0_0 rfl dX10_law_1 ?_
  obtain ⟨tv_3, tM_1, c_2, hf⟩ := x_bE hf
  refine x_vI C hw hl.1 [] [] (mX6_findFault l g c_2) lk_X10_185 ic0_3 (by decide) rfl (by decide) rfl (Nat.le_of_ble_eq_true rfl) ⟨Nat.zero_le _, Nat.zero_le _⟩ dX10_law_4 (fun v_3 M_1 H locs hN hw => ?_)
  obtain ⟨rfl, rfl⟩ := hN
  refine lv_istore_n (lv' := [(1, .int v_3), (0, .ref (g.2.2.1 0))]) hx hb dX10_law_7 rfl hl (by decide) rfl (fun ls hl => ?_)
  refine lv_aload_n hx hb dX10_law_8 rfl (lv_at hl 1 rfl) ?_
  refine fg_X10_26 (k2 := 3) C hw ic0_0 rfl dX10_law_9 ?_
  refine fg_X10_173 (k2 := 11) C hw ic0_3 rfl dX10_law_12 ?_
  refine lv_iconst (v := (0 : Int32)) hx hb dX10_law_15 (by decide) ?_
  refine fp_X10_177 C hw ic0_11 dX10_law_16 (fun H locs hw => ?_)
  obtain ⟨M_4, eM_4⟩ : ∃ z, z = (x_up M_1 11 1 (0 : Int32)) := ⟨_, rfl⟩
  rw [← eM_4] at hw
  have hf := x_lE eM_4 hf
  refine lv_iload_n hx hb dX10_law_19 rfl (lv_at hl 0 rfl) ?_
  refine lv_iconst (v := (-1 : Int32)) hx hb dX10_law_20 (by decide) ?_
  refine lv_icmp_eq (tgt := 29) hx hb dX10_law_21 (by decide) (fun q_5 => ?_) (fun q_5 => ?_)
  · have hf := x_iP hf q_5
    refine lv_aload_n hx hb dX10_law_29 rfl (lv_at hl 1 rfl) ?_
    refine fg_X10_10 (k2 := 1) C hw ic0_0 rfl dX10_law_30 ?_
    refine fg_X10_189 (k2 := 25) C hw ic0_1 rfl dX10_law_33 ?_
    refine lv_aload_n hx hb dX10_law_36 rfl (lv_at hl 1 rfl) ?_
    refine fg_X10_26 (k2 := 3) C hw ic0_0 rfl dX10_law_37 ?_
    refine fg_X10_193 (k2 := 12) C hw ic0_3 rfl dX10_law_40 ?_
    obtain ⟨tM_6, c_7, hf⟩ := x_vE hf
    refine x_vV C hw hl.1 [.ref (g.2.2.1 12)] [] (mX3_become l g ic0_25 ic0_12 c_7) lk_X10_196 ic0_25 (by decide) rfl (by decide) rfl (Nat.le_of_ble_eq_true rfl) ⟨Nat.zero_le _, Nat.zero_le _⟩ dX10_law_43 (fun M_6 H locs hN hw => ?_)
    obtain rfl := hN
    refine lv_aload_n hx hb dX10_law_46 rfl (lv_at hl 1 rfl) ?_
    refine fg_X10_10 (k2 := 1) C hw ic0_0 rfl dX10_law_47 ?_
    refine fg_X10_189 (k2 := 25) C hw ic0_1 rfl dX10_law_50 ?_
    refine fg_X10_202 C hw ic0_25 dX10_law_53 ?_
    exact ret hf dX10_law_56 hw
  · have hf := x_iN hf q_5
    refine lv_bipush (v := (-100 : Int32)) hx hb dX10_law_24 (by decide) ?_
    refine lv_iload_n hx hb dX10_law_26 rfl (lv_at hl 0 rfl) ?_
    refine lv_isub hx hb dX10_law_27 ?_
    exact ret hf dX10_law_28 hw
