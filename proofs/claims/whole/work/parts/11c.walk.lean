noncomputable def fX11_isName (M : xM) (a1 : Int32) : Option (Int32 × xM) := if a1 = (121 : Int32) then (some ((1 : Int32), M)) else (if (M 0 11) = 0 then (x_l (fun (M_13 : xM) => some ((1 : Int32), M_13)) fun k39_12 => if a1 = (103 : Int32) then (k39_12 M) else (if a1 = (112 : Int32) then (k39_12 M) else (if a1 = (97 : Int32) then (k39_12 M) else (if a1 = (107 : Int32) then (k39_12 M) else (some ((0 : Int32), M)))))) else (if (M 0 11) = (1 : Int32) then (x_l (fun (M_6 : xM) => some ((1 : Int32), M_6)) fun k83_5 => if a1 = (105 : Int32) then (k83_5 M) else (if a1 = (110 : Int32) then (k83_5 M) else (if a1 = (119 : Int32) then (k83_5 M) else (if a1 = (100 : Int32) then (k83_5 M) else (if a1 = (115 : Int32) then (k83_5 M) else (some ((0 : Int32), M))))))) else (if a1 = (117 : Int32) then (some ((1 : Int32), M)) else (some ((0 : Int32), M)))))
set_option maxRecDepth 100000 in
set_option maxHeartbeats 4000000 in
theorem mX11_isName (l : Launch) (g : xG) {a1 : Int32} {r : Int32} {M' : xM}  {M : xM} (hf : fX11_isName M a1 = some (r, M')) : x_cI l g 1 yX11_isName cX11_isName 2 .boolean 0 0 [.ref (g.2.2.1 0), .int a1] M (fun v N => v = r ∧ N = M') := by
  refine x_stZ RX11 (by decide) rfl (Nat.le_of_ble_eq_true rfl) ?_
  intro p e s m args below meth c Q ls C hw ret hl
  obtain ⟨hx, hb, hml, hown, hB, -⟩ := id C
  have hl : lv_has ls 2 [(0, .ref (g.2.2.1 0)), (1, .int a1)] := hl
  unfold fX11_isName at hf
  refine lv_iload_n hx hb dX11_isName_0 rfl (lv_at hl 1 rfl) ?_
  refine lv_bipush (v := (121 : Int32)) hx hb dX11_isName_1 (by decide) ?_
  refine lv_icmp_ne (tgt := 8) hx hb dX11_isName_3 (by decide) (fun q_1 => ?_) (fun q_1 => ?_)
  · have hf := x_iN hf q_1
    refine lv_aload_n hx hb dX11_isName_8 rfl (lv_at hl 0 rfl) ?_
    refine fg_X11_132 C hw ic1_0 dX11_isName_9 ?_
    refine lv_if_ne (tgt := 45) hx hb dX11_isName_12 (by decide) (fun q_2 => ?_) (fun q_2 => ?_)
    · have hf := x_iN hf q_2
      refine lv_aload_n hx hb dX11_isName_45 rfl (lv_at hl 0 rfl) ?_
      refine fg_X11_132 C hw ic1_0 dX11_isName_46 ?_
      refine lv_iconst (v := (1 : Int32)) hx hb dX11_isName_49 (by decide) ?_
      refine lv_icmp_ne (tgt := 91) hx hb dX11_isName_50 (by decide) (fun q_3 => ?_) (fun q_3 => ?_)
      · have hf := x_iN hf q_3
        refine lv_iload_n hx hb dX11_isName_91 rfl (lv_at hl 1 rfl) ?_
        refine lv_bipush (v := (117 : Int32)) hx hb dX11_isName_92 (by decide) ?_
        refine lv_icmp_ne (tgt := 101) hx hb dX11_isName_94 (by decide) (fun q_4 => ?_) (fun q_4 => ?_)
        · have hf := x_iN hf q_4
          refine lv_iconst (v := (0 : Int32)) hx hb dX11_isName_101 (by decide) ?_
          exact ret ((x_zl0 _).trans hf) dX11_isName_102 hw
        · have hf := x_iP hf q_4
          refine lv_iconst (v := (1 : Int32)) hx hb dX11_isName_97 (by decide) ?_
          refine lv_goto (tgt := 102) hx hb dX11_isName_98 (by decide) ?_
          exact ret ((x_zl1 _).trans hf) dX11_isName_102 hw
      · have hf := x_iP hf q_3
        refine lv_iload_n hx hb dX11_isName_53 rfl (lv_at hl 1 rfl) ?_
        refine lv_bipush (v := (105 : Int32)) hx hb dX11_isName_54 (by decide) ?_
        obtain ⟨k83_5, ek83_5, hf⟩ := x_jE hf
        have hk83_5 : ∀ (H : Heap) (locs : List Loc) (M_6 : xM)  (ls : Array Slot) , lv_has ls 2 [] → x_w g 1 s H locs M_6 → k83_5 M_6 = some (r, M') → W p l e (x_rm 0 0) s m args below meth c H locs 0 0 Q (F0 m 83 ls []) := by
          intro H locs M_6  ls  hl hw hf
          rw [ek83_5] at hf
          refine lv_iconst (v := (1 : Int32)) hx hb dX11_isName_83 (by decide) ?_
          refine lv_goto (tgt := 102) hx hb dX11_isName_84 (by decide) ?_
          exact ret ((x_zl1 _).trans hf) dX11_isName_102 hw
        refine lv_icmp_eq (tgt := 83) hx hb dX11_isName_56 (by decide) (fun q_7 => ?_) (fun q_7 => ?_)
        · have hf := x_iP hf q_7
          exact hk83_5 _ _ _ _ (lv_sub hl [] rfl) hw hf
        · have hf := x_iN hf q_7
          refine lv_iload_n hx hb dX11_isName_59 rfl (lv_at hl 1 rfl) ?_
          refine lv_bipush (v := (110 : Int32)) hx hb dX11_isName_60 (by decide) ?_
          refine lv_icmp_eq (tgt := 83) hx hb dX11_isName_62 (by decide) (fun q_8 => ?_) (fun q_8 => ?_)
          · have hf := x_iP hf q_8
            exact hk83_5 _ _ _ _ (lv_sub hl [] rfl) hw hf
          · have hf := x_iN hf q_8
            refine lv_iload_n hx hb dX11_isName_65 rfl (lv_at hl 1 rfl) ?_
            refine lv_bipush (v := (119 : Int32)) hx hb dX11_isName_66 (by decide) ?_
            refine lv_icmp_eq (tgt := 83) hx hb dX11_isName_68 (by decide) (fun q_9 => ?_) (fun q_9 => ?_)
            · have hf := x_iP hf q_9
              exact hk83_5 _ _ _ _ (lv_sub hl [] rfl) hw hf
            · have hf := x_iN hf q_9
              refine lv_iload_n hx hb dX11_isName_71 rfl (lv_at hl 1 rfl) ?_
              refine lv_bipush (v := (100 : Int32)) hx hb dX11_isName_72 (by decide) ?_
              refine lv_icmp_eq (tgt := 83) hx hb dX11_isName_74 (by decide) (fun q_10 => ?_) (fun q_10 => ?_)
              · have hf := x_iP hf q_10
                exact hk83_5 _ _ _ _ (lv_sub hl [] rfl) hw hf
              · have hf := x_iN hf q_10
                refine lv_iload_n hx hb dX11_isName_77 rfl (lv_at hl 1 rfl) ?_
                refine lv_bipush (v := (115 : Int32)) hx hb dX11_isName_78 (by decide) ?_
                refine lv_icmp_ne (tgt := 87) hx hb dX11_isName_80 (by decide) (fun q_11 => ?_) (fun q_11 => ?_)
                · have hf := x_iN hf q_11
                  refine lv_iconst (v := (0 : Int32)) hx hb dX11_isName_87 (by decide) ?_
                  refine lv_goto (tgt := 102) hx hb dX11_isName_88 (by decide) ?_
                  exact ret ((x_zl0 _).trans hf) dX11_isName_102 hw
                · have hf := x_iP hf q_11
                  exact hk83_5 _ _ _ _ (lv_sub hl [] rfl) hw hf
    · have hf := x_iP hf q_2
      refine lv_iload_n hx hb dX11_isName_15 rfl (lv_at hl 1 rfl) ?_
      refine lv_bipush (v := (103 : Int32)) hx hb dX11_isName_16 (by decide) ?_
      obtain ⟨k39_12, ek39_12, hf⟩ := x_jE hf
      have hk39_12 : ∀ (H : Heap) (locs : List Loc) (M_13 : xM)  (ls : Array Slot) , lv_has ls 2 [] → x_w g 1 s H locs M_13 → k39_12 M_13 = some (r, M') → W p l e (x_rm 0 0) s m args below meth c H locs 0 0 Q (F0 m 39 ls []) := by
        intro H locs M_13  ls  hl hw hf
        rw [ek39_12] at hf
        refine lv_iconst (v := (1 : Int32)) hx hb dX11_isName_39 (by decide) ?_
        refine lv_goto (tgt := 44) hx hb dX11_isName_40 (by decide) ?_
        exact ret ((x_zl1 _).trans hf) dX11_isName_44 hw
      refine lv_icmp_eq (tgt := 39) hx hb dX11_isName_18 (by decide) (fun q_14 => ?_) (fun q_14 => ?_)
      · have hf := x_iP hf q_14
        exact hk39_12 _ _ _ _ (lv_sub hl [] rfl) hw hf
      · have hf := x_iN hf q_14
        refine lv_iload_n hx hb dX11_isName_21 rfl (lv_at hl 1 rfl) ?_
        refine lv_bipush (v := (112 : Int32)) hx hb dX11_isName_22 (by decide) ?_
        refine lv_icmp_eq (tgt := 39) hx hb dX11_isName_24 (by decide) (fun q_15 => ?_) (fun q_15 => ?_)
        · have hf := x_iP hf q_15
          exact hk39_12 _ _ _ _ (lv_sub hl [] rfl) hw hf
        · have hf := x_iN hf q_15
          refine lv_iload_n hx hb dX11_isName_27 rfl (lv_at hl 1 rfl) ?_
          refine lv_bipush (v := (97 : Int32)) hx hb dX11_isName_28 (by decide) ?_
          refine lv_icmp_eq (tgt := 39) hx hb dX11_isName_30 (by decide) (fun q_16 => ?_) (fun q_16 => ?_)
          · have hf := x_iP hf q_16
            exact hk39_12 _ _ _ _ (lv_sub hl [] rfl) hw hf
          · have hf := x_iN hf q_16
            refine lv_iload_n hx hb dX11_isName_33 rfl (lv_at hl 1 rfl) ?_
            refine lv_bipush (v := (107 : Int32)) hx hb dX11_isName_34 (by decide) ?_
            refine lv_icmp_ne (tgt := 43) hx hb dX11_isName_36 (by decide) (fun q_17 => ?_) (fun q_17 => ?_)
            · have hf := x_iN hf q_17
              refine lv_iconst (v := (0 : Int32)) hx hb dX11_isName_43 (by decide) ?_
              exact ret ((x_zl0 _).trans hf) dX11_isName_44 hw
            · have hf := x_iP hf q_17
              exact hk39_12 _ _ _ _ (lv_sub hl [] rfl) hw hf
  · have hf := x_iP hf q_1
    refine lv_iconst (v := (1 : Int32)) hx hb dX11_isName_6 (by decide) ?_
    exact ret ((x_zl1 _).trans hf) dX11_isName_7 hw
noncomputable def fX11_begins_L149 (k178_67 : xM → Int32 → Option (Int32 × xM)) : Nat → xM → Int32 → Int32 → Option (Int32 × xM)
  | 0, _, _, _ => none
  | n_74 + 1, M_73, x1_71, x2_72 => if (M_73 0 6) ≤ x2_72 then (k178_67 M_73 x1_71) else (x_g x2_72 120 (x_l ((((10 : Int32) * x1_71) + (M_73 3 x2_72.toNatClampNeg)) - (48 : Int32)) fun x1_78 => x_l (x2_72 + (1 : Int32)) fun x2_79 => fX11_begins_L149 k178_67 n_74 M_73 x1_78 x2_79))
noncomputable def fX11_begins (M : xM)  : Option (Int32 × xM) := x_b (fX11_isSign M (33 : Int32)) fun v_3 M_1 => x_l (fun (M_5 : xM) => x_b (fX11_isSign M_5 (33 : Int32)) fun v_8 M_6 => x_l (fun (M_11 : xM) (z_9 : Int32) => if z_9 = (8 : Int32) then (x_v (fX11_wrong M_11) fun M_32 => some ((0 : Int32), M_32)) else (x_l (fun (M_15 : xM) (z_13 : Int32) => x_g (M_11 0 16) 130 (x_l (x_up M_15 5 (M_11 0 16).toNatClampNeg z_13) fun M_17 => x_l (x_up M_17 0 16 ((M_17 0 16) + (1 : Int32))) fun M_18 => x_l (fun (M_21 : xM) (z_19 : Int32) => x_l (x_up M_21 0 18 ((M_18 0 18) + z_19)) fun M_22 => x_l (fun (M_25 : xM) (z_23 : Int32) => x_l (x_up M_25 0 17 ((M_22 0 17) + z_23)) fun M_26 => x_v (fX11_next M_26) fun M_27 => some ((1 : Int32), M_27)) fun k111_24 => if v_8 = 0 then (k111_24 M_22 (1 : Int32)) else (k111_24 M_22 (0 : Int32))) fun k93_20 => if v_8 = 0 then (k93_20 M_18 (0 : Int32)) else (k93_20 M_18 (1 : Int32)))) fun k68_14 => if v_8 = 0 then (k68_14 M_11 (1 : Int32)) else (k68_14 M_11 (3 : Int32)))) fun k40_10 => if v_8 = 0 then (k40_10 M_6 (M_6 0 17)) else (k40_10 M_6 (M_6 0 18))) fun k18_4 => if v_3 = 0 then (x_b (fX11_isSign M_1 (40 : Int32)) fun v_38 M_36 => if v_38 = 0 then (x_l (fun (M_41 : xM) => x_l (x_up M_41 0 13 ((M_41 0 13) + (1 : Int32))) fun M_42 => x_v (fX11_next M_42) fun M_43 => x_v (fX11_parted M_43) fun M_45 => some ((0 : Int32), M_45)) fun k247_40 => x_l (fun (M_48 : xM) => x_l (fun (M_50 : xM) => x_v (fX11_wrong M_50) fun M_51 => some ((0 : Int32), M_51)) fun k241_49 => if (M_48 0 8) = (1 : Int32) then (if ((M_48 0 6) - (M_48 0 5)) = (1 : Int32) then (x_g (M_48 0 5) 120 (x_b (fX11_isName M_48 (M_48 3 (M_48 0 5).toNatClampNeg)) fun v_58 M_56 => if v_58 = 0 then (k241_49 M_56) else (x_g (M_56 0 5) 120 (x_v (fX11_emit M_56 (2 : Int32) (M_56 3 (M_56 0 5).toNatClampNeg)) fun M_61 => k247_40 M_61)))) else (k241_49 M_48)) else (k241_49 M_48)) fun k187_47 => if (M_36 0 8) = (2 : Int32) then (if (5 : Int32) < ((M_36 0 6) - (M_36 0 5)) then (k187_47 M_36) else (x_l (M_36 0 5) fun x2_65 => x_l (fun (M_68 : xM) (x1_66 : Int32) => x_v (fX11_emit M_68 (1 : Int32) x1_66) fun M_69 => k247_40 M_69) fun k178_67 => fX11_begins_L149 k178_67 x_FU M_36 (0 : Int32) x2_65)) else (k187_47 M_36)) else (k18_4 M_36)) else (k18_4 M_1)
set_option maxRecDepth 100000 in
set_option maxHeartbeats 4000000 in
theorem mX11_begins (l : Launch) (g : xG)  {r : Int32} {M' : xM}  {M : xM} (hf : fX11_begins M  = some (r, M')) : x_cI l g 1 yX11_begins cX11_begins 3 .boolean 3 64 [.ref (g.2.2.1 0)] M (fun v N => v = r ∧ N = M') := by
  refine x_stZ RX11 (by decide) rfl (Nat.le_of_ble_eq_true rfl) ?_
  intro p e s m args below meth c Q ls C hw ret hl
  obtain ⟨hx, hb, hml, hown, hB, -⟩ := id C
  have hl : lv_has ls 3 [(0, .ref (g.2.2.1 0))] := hl
  unfold fX11_begins at hf
  refine lv_aload_n hx hb dX11_begins_0 rfl (lv_at hl 0 rfl) ?_
  refine lv_bipush (v := (33 : Int32)) hx hb dX11_begins_1 (by decide) ?_
  obtain ⟨tv_3, tM_1, c_2, hf⟩ := x_bE hf
  refine x_vI C hw hl.1 [.int (33 : Int32)] [] (mX11_isSign l g c_2) lk_X11_148 ic1_0 (by decide) rfl (by decide) rfl (Nat.le_of_ble_eq_true rfl) ⟨Nat.zero_le _, Nat.zero_le _⟩ dX11_begins_3 (fun v_3 M_1 H locs hN hw => ?_)
  obtain ⟨rfl, rfl⟩ := hN
  obtain ⟨k18_4, ek18_4, hf⟩ := x_jE hf
  have hk18_4 : ∀ (H : Heap) (locs : List Loc) (M_5 : xM)  (ls : Array Slot) , lv_has ls 3 [(0, .ref (g.2.2.1 0))] → x_w g 1 s H locs M_5 → k18_4 M_5 = some (r, M') → W p l e (x_rm 3 64) s m args below meth c H locs 0 0 Q (F0 m 18 ls []) := by
    intro H locs M_5  ls  hl hw hf
    rw [ek18_4] at hf
    refine lv_aload_n hx hb dX11_begins_18 rfl (lv_at hl 0 rfl) ?_
    refine lv_bipush (v := (33 : Int32)) hx hb dX11_begins_19 (by decide) ?_
    obtain ⟨tv_8, tM_6, c_7, hf⟩ := x_bE hf
    refine x_vI C hw hl.1 [.int (33 : Int32)] [] (mX11_isSign l g c_7) lk_X11_148 ic1_0 (by decide) rfl (by decide) rfl (Nat.le_of_ble_eq_true rfl) ⟨Nat.zero_le _, Nat.zero_le _⟩ dX11_begins_21 (fun v_8 M_6 H locs hN hw => ?_)
    obtain ⟨rfl, rfl⟩ := hN
    refine lv_istore_n (lv' := [(1, .int v_8), (0, .ref (g.2.2.1 0))]) hx hb dX11_begins_24 rfl hl (by decide) rfl (fun ls hl => ?_)
    refine lv_iload_n hx hb dX11_begins_25 rfl (lv_at hl 0 rfl) ?_
    obtain ⟨k40_10, ek40_10, hf⟩ := x_jE hf
    have hk40_10 : ∀ (H : Heap) (locs : List Loc) (M_11 : xM) (z_9 : Int32) (ls : Array Slot) , lv_has ls 3 [(1, .int v_8), (0, .ref (g.2.2.1 0))] → x_w g 1 s H locs M_11 → k40_10 M_11 z_9 = some (r, M') → W p l e (x_rm 3 64) s m args below meth c H locs 0 0 Q (F0 m 40 ls [.int z_9]) := by
      intro H locs M_11 z_9 ls  hl hw hf
      rw [ek40_10] at hf
      refine lv_bipush (v := (8 : Int32)) hx hb dX11_begins_40 (by decide) ?_
      refine lv_icmp_ne (tgt := 51) hx hb dX11_begins_42 (by decide) (fun q_12 => ?_) (fun q_12 => ?_)
      · have hf := x_iN hf q_12
        refine lv_aload_n hx hb dX11_begins_51 rfl (lv_at hl 1 rfl) ?_
        refine fg_X11_22 (k2 := 5) C hw ic1_0 rfl dX11_begins_52 ?_
        refine lv_aload_n hx hb dX11_begins_55 rfl (lv_at hl 1 rfl) ?_
        refine fg_X11_138 C hw ic1_0 dX11_begins_56 ?_
        refine lv_iload_n hx hb dX11_begins_59 rfl (lv_at hl 0 rfl) ?_
        obtain ⟨k68_14, ek68_14, hf⟩ := x_jE hf
        have hk68_14 : ∀ (H : Heap) (locs : List Loc) (M_15 : xM) (z_13 : Int32) (ls : Array Slot) , lv_has ls 3 [(1, .int v_8), (0, .ref (g.2.2.1 0))] → x_w g 1 s H locs M_15 → k68_14 M_15 z_13 = some (r, M') → W p l e (x_rm 3 64) s m args below meth c H locs 0 0 Q (F0 m 68 ls [.int z_13, .int (M_11 0 16), .ref (g.2.2.1 5)]) := by
          intro H locs M_15 z_13 ls  hl hw hf
          rw [ek68_14] at hf
          obtain ⟨q_16, hf⟩ := x_gE hf
          refine x_ast C hw ic1_5 q_16 rfl dX11_begins_68 (fun H locs hw => ?_)
          obtain ⟨M_17, eM_17⟩ : ∃ z, z = (x_up M_15 5 (M_11 0 16).toNatClampNeg z_13) := ⟨_, rfl⟩
          rw [← eM_17] at hw
          have hf := x_lE eM_17 hf
          refine lv_aload_n hx hb dX11_begins_69 rfl (lv_at hl 1 rfl) ?_
          refine lv_dup hx hb dX11_begins_70 rfl ?_
          refine fg_X11_138 C hw ic1_0 dX11_begins_71 ?_
          refine lv_iconst (v := (1 : Int32)) hx hb dX11_begins_74 (by decide) ?_
          refine lv_iadd hx hb dX11_begins_75 ?_
          refine fp_X11_138 C hw ic1_0 dX11_begins_76 (fun H locs hw => ?_)
          obtain ⟨M_18, eM_18⟩ : ∃ z, z = (x_up M_17 0 16 ((M_17 0 16) + (1 : Int32))) := ⟨_, rfl⟩
          rw [← eM_18] at hw
          have hf := x_lE eM_18 hf
          refine lv_aload_n hx hb dX11_begins_79 rfl (lv_at hl 1 rfl) ?_
          refine lv_dup hx hb dX11_begins_80 rfl ?_
          refine fg_X11_145 C hw ic1_0 dX11_begins_81 ?_
          refine lv_iload_n hx hb dX11_begins_84 rfl (lv_at hl 0 rfl) ?_
          obtain ⟨k93_20, ek93_20, hf⟩ := x_jE hf
          have hk93_20 : ∀ (H : Heap) (locs : List Loc) (M_21 : xM) (z_19 : Int32) (ls : Array Slot) , lv_has ls 3 [(1, .int v_8), (0, .ref (g.2.2.1 0))] → x_w g 1 s H locs M_21 → k93_20 M_21 z_19 = some (r, M') → W p l e (x_rm 3 64) s m args below meth c H locs 0 0 Q (F0 m 93 ls [.int z_19, .int (M_18 0 18), .ref (g.2.2.1 0)]) := by
            intro H locs M_21 z_19 ls  hl hw hf
            rw [ek93_20] at hf
            refine lv_iadd hx hb dX11_begins_93 ?_
            refine fp_X11_145 C hw ic1_0 dX11_begins_94 (fun H locs hw => ?_)
            obtain ⟨M_22, eM_22⟩ : ∃ z, z = (x_up M_21 0 18 ((M_18 0 18) + z_19)) := ⟨_, rfl⟩
            rw [← eM_22] at hw
            have hf := x_lE eM_22 hf
            refine lv_aload_n hx hb dX11_begins_97 rfl (lv_at hl 1 rfl) ?_
            refine lv_dup hx hb dX11_begins_98 rfl ?_
            refine fg_X11_151 C hw ic1_0 dX11_begins_99 ?_
            refine lv_iload_n hx hb dX11_begins_102 rfl (lv_at hl 0 rfl) ?_
            obtain ⟨k111_24, ek111_24, hf⟩ := x_jE hf
            have hk111_24 : ∀ (H : Heap) (locs : List Loc) (M_25 : xM) (z_23 : Int32) (ls : Array Slot) , lv_has ls 3 [(0, .ref (g.2.2.1 0))] → x_w g 1 s H locs M_25 → k111_24 M_25 z_23 = some (r, M') → W p l e (x_rm 3 64) s m args below meth c H locs 0 0 Q (F0 m 111 ls [.int z_23, .int (M_22 0 17), .ref (g.2.2.1 0)]) := by
              intro H locs M_25 z_23 ls  hl hw hf
              rw [ek111_24] at hf
              refine lv_iadd hx hb dX11_begins_111 ?_
              refine fp_X11_151 C hw ic1_0 dX11_begins_112 (fun H locs hw => ?_)
              obtain ⟨M_26, eM_26⟩ : ∃ z, z = (x_up M_25 0 17 ((M_22 0 17) + z_23)) := ⟨_, rfl⟩
              rw [← eM_26] at hw
              have hf := x_lE eM_26 hf
              refine lv_aload_n hx hb dX11_begins_115 rfl (lv_at hl 0 rfl) ?_
              obtain ⟨tM_27, c_28, hf⟩ := x_vE hf
              refine x_vV C hw hl.1 [] [] (mX11_next l g c_28) lk_X11_154 ic1_0 (by decide) rfl (by decide) rfl (Nat.le_of_ble_eq_true rfl) ⟨Nat.zero_le _, Nat.zero_le _⟩ dX11_begins_116 (fun M_27 H locs hN hw => ?_)
              obtain rfl := hN
              refine lv_iconst (v := (1 : Int32)) hx hb dX11_begins_119 (by decide) ?_
              exact ret ((x_zl1 _).trans hf) dX11_begins_120 hw
            refine lv_if_eq (tgt := 110) hx hb dX11_begins_103 (by decide) (fun q_29 => ?_) (fun q_29 => ?_)
            · have hf := x_iP hf q_29
              refine lv_iconst (v := (1 : Int32)) hx hb dX11_begins_110 (by decide) ?_
              exact hk111_24 _ _ _ _ _ (lv_sub hl [1] rfl) hw hf
            · have hf := x_iN hf q_29
              refine lv_iconst (v := (0 : Int32)) hx hb dX11_begins_106 (by decide) ?_
              refine lv_goto (tgt := 111) hx hb dX11_begins_107 (by decide) ?_
              exact hk111_24 _ _ _ _ _ (lv_sub hl [1] rfl) hw hf
          refine lv_if_eq (tgt := 92) hx hb dX11_begins_85 (by decide) (fun q_30 => ?_) (fun q_30 => ?_)
          · have hf := x_iP hf q_30
            refine lv_iconst (v := (0 : Int32)) hx hb dX11_begins_92 (by decide) ?_
            exact hk93_20 _ _ _ _ _ (lv_sub hl [0, 1] rfl) hw hf
          · have hf := x_iN hf q_30
            refine lv_iconst (v := (1 : Int32)) hx hb dX11_begins_88 (by decide) ?_
            refine lv_goto (tgt := 93) hx hb dX11_begins_89 (by decide) ?_
            exact hk93_20 _ _ _ _ _ (lv_sub hl [0, 1] rfl) hw hf
        refine lv_if_eq (tgt := 67) hx hb dX11_begins_60 (by decide) (fun q_31 => ?_) (fun q_31 => ?_)
        · have hf := x_iP hf q_31
          refine lv_iconst (v := (1 : Int32)) hx hb dX11_begins_67 (by decide) ?_
          exact hk68_14 _ _ _ _ _ (lv_sub hl [0, 1] rfl) hw hf
        · have hf := x_iN hf q_31
          refine lv_iconst (v := (3 : Int32)) hx hb dX11_begins_63 (by decide) ?_
          refine lv_goto (tgt := 68) hx hb dX11_begins_64 (by decide) ?_
          exact hk68_14 _ _ _ _ _ (lv_sub hl [0, 1] rfl) hw hf
      · have hf := x_iP hf q_12
        refine lv_aload_n hx hb dX11_begins_45 rfl (lv_at hl 1 rfl) ?_
        obtain ⟨tM_32, c_33, hf⟩ := x_vE hf
        refine x_vV C hw hl.1 [] [] (mX11_wrong l g c_33) lk_X11_125 ic1_0 (by decide) rfl (by decide) rfl (Nat.le_of_ble_eq_true rfl) ⟨Nat.zero_le _, Nat.zero_le _⟩ dX11_begins_46 (fun M_32 H locs hN hw => ?_)
        obtain rfl := hN
        refine lv_iconst (v := (0 : Int32)) hx hb dX11_begins_49 (by decide) ?_
        exact ret ((x_zl0 _).trans hf) dX11_begins_50 hw
    refine lv_if_eq (tgt := 36) hx hb dX11_begins_26 (by decide) (fun q_34 => ?_) (fun q_34 => ?_)
    · have hf := x_iP hf q_34
      refine lv_aload_n hx hb dX11_begins_36 rfl (lv_at hl 1 rfl) ?_
      refine fg_X11_151 C hw ic1_0 dX11_begins_37 ?_
      exact hk40_10 _ _ _ _ _ (lv_sub hl [0, 1] rfl) hw hf
    · have hf := x_iN hf q_34
      refine lv_aload_n hx hb dX11_begins_29 rfl (lv_at hl 1 rfl) ?_
      refine fg_X11_145 C hw ic1_0 dX11_begins_30 ?_
      refine lv_goto (tgt := 40) hx hb dX11_begins_33 (by decide) ?_
      exact hk40_10 _ _ _ _ _ (lv_sub hl [0, 1] rfl) hw hf
  refine lv_if_ne (tgt := 18) hx hb dX11_begins_6 (by decide) (fun q_35 => ?_) (fun q_35 => ?_)
  · have hf := x_iN hf q_35
    exact hk18_4 _ _ _ _ (lv_sub hl [0] rfl) hw hf
  · have hf := x_iP hf q_35
    refine lv_aload_n hx hb dX11_begins_9 rfl (lv_at hl 0 rfl) ?_
    refine lv_bipush (v := (40 : Int32)) hx hb dX11_begins_10 (by decide) ?_
    obtain ⟨tv_38, tM_36, c_37, hf⟩ := x_bE hf
    refine x_vI C hw hl.1 [.int (40 : Int32)] [] (mX11_isSign l g c_37) lk_X11_148 ic1_0 (by decide) rfl (by decide) rfl (Nat.le_of_ble_eq_true rfl) ⟨Nat.zero_le _, Nat.zero_le _⟩ dX11_begins_12 (fun v_38 M_36 H locs hN hw => ?_)
    obtain ⟨rfl, rfl⟩ := hN
    refine lv_if_eq (tgt := 121) hx hb dX11_begins_15 (by decide) (fun q_39 => ?_) (fun q_39 => ?_)
    · have hf := x_iP hf q_39
      refine lv_aload_n hx hb dX11_begins_121 rfl (lv_at hl 0 rfl) ?_
      refine fg_X11_119 C hw ic1_0 dX11_begins_122 ?_
      refine lv_iconst (v := (2 : Int32)) hx hb dX11_begins_125 (by decide) ?_
      obtain ⟨k247_40, ek247_40, hf⟩ := x_jE hf
      have hk247_40 : ∀ (H : Heap) (locs : List Loc) (M_41 : xM)  (ls : Array Slot) , lv_has ls 3 [(0, .ref (g.2.2.1 0))] → x_w g 1 s H locs M_41 → k247_40 M_41 = some (r, M') → W p l e (x_rm 3 64) s m args below meth c H locs 0 0 Q (F0 m 247 ls []) := by
        intro H locs M_41  ls  hl hw hf
        rw [ek247_40] at hf
        refine lv_aload_n hx hb dX11_begins_247 rfl (lv_at hl 0 rfl) ?_
        refine lv_dup hx hb dX11_begins_248 rfl ?_
        refine fg_X11_160 C hw ic1_0 dX11_begins_249 ?_
        refine lv_iconst (v := (1 : Int32)) hx hb dX11_begins_252 (by decide) ?_
        refine lv_iadd hx hb dX11_begins_253 ?_
        refine fp_X11_160 C hw ic1_0 dX11_begins_254 (fun H locs hw => ?_)
        obtain ⟨M_42, eM_42⟩ : ∃ z, z = (x_up M_41 0 13 ((M_41 0 13) + (1 : Int32))) := ⟨_, rfl⟩
        rw [← eM_42] at hw
        have hf := x_lE eM_42 hf
        refine lv_aload_n hx hb dX11_begins_257 rfl (lv_at hl 0 rfl) ?_
        obtain ⟨tM_43, c_44, hf⟩ := x_vE hf
        refine x_vV C hw hl.1 [] [] (mX11_next l g c_44) lk_X11_154 ic1_0 (by decide) rfl (by decide) rfl (Nat.le_of_ble_eq_true rfl) ⟨Nat.zero_le _, Nat.zero_le _⟩ dX11_begins_258 (fun M_43 H locs hN hw => ?_)
        obtain rfl := hN
        refine lv_aload_n hx hb dX11_begins_261 rfl (lv_at hl 0 rfl) ?_
        obtain ⟨tM_45, c_46, hf⟩ := x_vE hf
        refine x_vV C hw hl.1 [] [] (mX11_parted l g c_46) lk_X11_163 ic1_0 (by decide) rfl (by decide) rfl (Nat.le_of_ble_eq_true rfl) ⟨Nat.zero_le _, Nat.zero_le _⟩ dX11_begins_262 (fun M_45 H locs hN hw => ?_)
        obtain rfl := hN
        refine lv_iconst (v := (0 : Int32)) hx hb dX11_begins_265 (by decide) ?_
        exact ret ((x_zl0 _).trans hf) dX11_begins_266 hw
      obtain ⟨k187_47, ek187_47, hf⟩ := x_jE hf
      have hk187_47 : ∀ (H : Heap) (locs : List Loc) (M_48 : xM)  (ls : Array Slot) , lv_has ls 3 [(0, .ref (g.2.2.1 0))] → x_w g 1 s H locs M_48 → k187_47 M_48 = some (r, M') → W p l e (x_rm 3 64) s m args below meth c H locs 0 0 Q (F0 m 187 ls []) := by
        intro H locs M_48  ls  hl hw hf
        rw [ek187_47] at hf
        refine lv_aload_n hx hb dX11_begins_187 rfl (lv_at hl 0 rfl) ?_
        refine fg_X11_119 C hw ic1_0 dX11_begins_188 ?_
        refine lv_iconst (v := (1 : Int32)) hx hb dX11_begins_191 (by decide) ?_
        obtain ⟨k241_49, ek241_49, hf⟩ := x_jE hf
        have hk241_49 : ∀ (H : Heap) (locs : List Loc) (M_50 : xM)  (ls : Array Slot) , lv_has ls 3 [(0, .ref (g.2.2.1 0))] → x_w g 1 s H locs M_50 → k241_49 M_50 = some (r, M') → W p l e (x_rm 3 64) s m args below meth c H locs 0 0 Q (F0 m 241 ls []) := by
          intro H locs M_50  ls  hl hw hf
          rw [ek241_49] at hf
          refine lv_aload_n hx hb dX11_begins_241 rfl (lv_at hl 0 rfl) ?_
          obtain ⟨tM_51, c_52, hf⟩ := x_vE hf
          refine x_vV C hw hl.1 [] [] (mX11_wrong l g c_52) lk_X11_125 ic1_0 (by decide) rfl (by decide) rfl (Nat.le_of_ble_eq_true rfl) ⟨Nat.zero_le _, Nat.zero_le _⟩ dX11_begins_242 (fun M_51 H locs hN hw => ?_)
          obtain rfl := hN
          refine lv_iconst (v := (0 : Int32)) hx hb dX11_begins_245 (by decide) ?_
          exact ret ((x_zl0 _).trans hf) dX11_begins_246 hw
        refine lv_icmp_ne (tgt := 241) hx hb dX11_begins_192 (by decide) (fun q_53 => ?_) (fun q_53 => ?_)
        · have hf := x_iN hf q_53
          exact hk241_49 _ _ _ _ (lv_sub hl [0] rfl) hw hf
        · have hf := x_iP hf q_53
          refine lv_aload_n hx hb dX11_begins_195 rfl (lv_at hl 0 rfl) ?_
          refine fg_X11_113 C hw ic1_0 dX11_begins_196 ?_
          refine lv_aload_n hx hb dX11_begins_199 rfl (lv_at hl 0 rfl) ?_
          refine fg_X11_107 C hw ic1_0 dX11_begins_200 ?_
          refine lv_isub hx hb dX11_begins_203 ?_
          refine lv_iconst (v := (1 : Int32)) hx hb dX11_begins_204 (by decide) ?_
          refine lv_icmp_ne (tgt := 241) hx hb dX11_begins_205 (by decide) (fun q_54 => ?_) (fun q_54 => ?_)
          · have hf := x_iN hf q_54
            exact hk241_49 _ _ _ _ (lv_sub hl [0] rfl) hw hf
          · have hf := x_iP hf q_54
            refine lv_aload_n hx hb dX11_begins_208 rfl (lv_at hl 0 rfl) ?_
            refine lv_aload_n hx hb dX11_begins_209 rfl (lv_at hl 0 rfl) ?_
            refine fg_X11_16 (k2 := 3) C hw ic1_0 rfl dX11_begins_210 ?_
            refine lv_aload_n hx hb dX11_begins_213 rfl (lv_at hl 0 rfl) ?_
            refine fg_X11_107 C hw ic1_0 dX11_begins_214 ?_
            obtain ⟨q_55, hf⟩ := x_gE hf
            refine x_ald C hw ic1_3 q_55 rfl dX11_begins_217 ?_
            obtain ⟨tv_58, tM_56, c_57, hf⟩ := x_bE hf
            refine x_vI C hw hl.1 [.int (M_48 3 (M_48 0 5).toNatClampNeg)] [] (mX11_isName l g c_57) lk_X11_157 ic1_0 (by decide) rfl (by decide) rfl (Nat.le_of_ble_eq_true rfl) ⟨Nat.zero_le _, Nat.zero_le _⟩ dX11_begins_218 (fun v_58 M_56 H locs hN hw => ?_)
            obtain ⟨rfl, rfl⟩ := hN
            refine lv_if_eq (tgt := 241) hx hb dX11_begins_221 (by decide) (fun q_59 => ?_) (fun q_59 => ?_)
            · have hf := x_iP hf q_59
              exact hk241_49 _ _ _ _ (lv_sub hl [0] rfl) hw hf
            · have hf := x_iN hf q_59
              refine lv_aload_n hx hb dX11_begins_224 rfl (lv_at hl 0 rfl) ?_
              refine lv_iconst (v := (2 : Int32)) hx hb dX11_begins_225 (by decide) ?_
              refine lv_aload_n hx hb dX11_begins_226 rfl (lv_at hl 0 rfl) ?_
              refine fg_X11_16 (k2 := 3) C hw ic1_0 rfl dX11_begins_227 ?_
              refine lv_aload_n hx hb dX11_begins_230 rfl (lv_at hl 0 rfl) ?_
              refine fg_X11_107 C hw ic1_0 dX11_begins_231 ?_
              obtain ⟨q_60, hf⟩ := x_gE hf
              refine x_ald C hw ic1_3 q_60 rfl dX11_begins_234 ?_
              obtain ⟨tM_61, c_62, hf⟩ := x_vE hf
              refine x_vV C hw hl.1 [.int (2 : Int32), .int (M_56 3 (M_56 0 5).toNatClampNeg)] [] (mX11_emit l g c_62) lk_X11_141 ic1_0 (by decide) rfl (by decide) rfl (Nat.le_of_ble_eq_true rfl) ⟨Nat.zero_le _, Nat.zero_le _⟩ dX11_begins_235 (fun M_61 H locs hN hw => ?_)
              obtain rfl := hN
              refine lv_goto (tgt := 247) hx hb dX11_begins_238 (by decide) ?_
              exact hk247_40 _ _ _ _ (lv_sub hl [0] rfl) hw hf
      refine lv_icmp_ne (tgt := 187) hx hb dX11_begins_126 (by decide) (fun q_63 => ?_) (fun q_63 => ?_)
      · have hf := x_iN hf q_63
        exact hk187_47 _ _ _ _ (lv_sub hl [0] rfl) hw hf
      · have hf := x_iP hf q_63
        refine lv_aload_n hx hb dX11_begins_129 rfl (lv_at hl 0 rfl) ?_
        refine fg_X11_113 C hw ic1_0 dX11_begins_130 ?_
        refine lv_aload_n hx hb dX11_begins_133 rfl (lv_at hl 0 rfl) ?_
        refine fg_X11_107 C hw ic1_0 dX11_begins_134 ?_
        refine lv_isub hx hb dX11_begins_137 ?_
        refine lv_iconst (v := (5 : Int32)) hx hb dX11_begins_138 (by decide) ?_
        refine lv_icmp_gt (tgt := 187) hx hb dX11_begins_139 (by decide) (fun q_64 => ?_) (fun q_64 => ?_)
        · have hf := x_iP hf q_64
          exact hk187_47 _ _ _ _ (lv_sub hl [0] rfl) hw hf
        · have hf := x_iN hf q_64
          refine lv_iconst (v := (0 : Int32)) hx hb dX11_begins_142 (by decide) ?_
          refine lv_istore_n (lv' := [(1, .int (0 : Int32)), (0, .ref (g.2.2.1 0))]) hx hb dX11_begins_143 rfl hl (by decide) rfl (fun ls hl => ?_)
          refine lv_aload_n hx hb dX11_begins_144 rfl (lv_at hl 1 rfl) ?_
          refine fg_X11_107 C hw ic1_0 dX11_begins_145 ?_
          refine lv_topi (fun x2_65 ex2_65 => ?_)
          have hf := x_lE ex2_65 hf
          refine lv_istore_n (lv' := [(2, .int x2_65), (1, .int (0 : Int32)), (0, .ref (g.2.2.1 0))]) hx hb dX11_begins_148 rfl hl (by decide) rfl (fun ls hl => ?_)
          obtain ⟨k178_67, ek178_67, hf⟩ := x_jE hf
          have hk178_67 : ∀ (H : Heap) (locs : List Loc) (M_68 : xM) (x1_66 : Int32) (ls : Array Slot) , lv_has ls 3 [(0, .ref (g.2.2.1 0)), (1, .int x1_66)] → x_w g 1 s H locs M_68 → k178_67 M_68 x1_66 = some (r, M') → W p l e (x_rm 3 64) s m args below meth c H locs 0 0 Q (F0 m 178 ls []) := by
            intro H locs M_68 x1_66 ls  hl hw hf
            rw [ek178_67] at hf
            refine lv_aload_n hx hb dX11_begins_178 rfl (lv_at hl 0 rfl) ?_
            refine lv_iconst (v := (1 : Int32)) hx hb dX11_begins_179 (by decide) ?_
            refine lv_iload_n hx hb dX11_begins_180 rfl (lv_at hl 1 rfl) ?_
            obtain ⟨tM_69, c_70, hf⟩ := x_vE hf
            refine x_vV C hw hl.1 [.int (1 : Int32), .int x1_66] [] (mX11_emit l g c_70) lk_X11_141 ic1_0 (by decide) rfl (by decide) rfl (Nat.le_of_ble_eq_true rfl) ⟨Nat.zero_le _, Nat.zero_le _⟩ dX11_begins_181 (fun M_69 H locs hN hw => ?_)
            obtain rfl := hN
            refine lv_goto (tgt := 247) hx hb dX11_begins_184 (by decide) ?_
            exact hk247_40 _ _ _ _ (lv_sub hl [0] rfl) hw hf
          have hL_80 : ∀ (n_74 : Nat) (H : Heap) (locs : List Loc) (M_73 : xM) (x1_71 : Int32) (x2_72 : Int32) (ls : Array Slot) , lv_has ls 3 [(0, .ref (g.2.2.1 0)), (1, .int x1_71), (2, .int x2_72)] → x_w g 1 s H locs M_73 → fX11_begins_L149 k178_67 n_74 M_73 x1_71 x2_72 = some (r, M') → W p l e (x_rm 3 64) s m args below meth c H locs 0 0 Q (F0 m 149 ls []) := by
            intro n_74
            induction n_74 with
            | zero =>
              intro H locs M_73 x1_71 x2_72 ls  hl hw hf
              rw [fX11_begins_L149] at hf
              cases hf
            | succ n_74 ih_75 =>
              intro H locs M_73 x1_71 x2_72 ls  hl hw hf
              rw [fX11_begins_L149] at hf
              refine lv_iload_n hx hb dX11_begins_149 rfl (lv_at hl 2 rfl) ?_
              refine lv_aload_n hx hb dX11_begins_150 rfl (lv_at hl 0 rfl) ?_
              refine fg_X11_113 C hw ic1_0 dX11_begins_151 ?_
              refine lv_icmp_ge (tgt := 178) hx hb dX11_begins_154 (by decide) (fun q_76 => ?_) (fun q_76 => ?_)
              · have hf := x_iP hf q_76
                exact hk178_67 _ _ _ _ _ (lv_sub hl [0, 1] rfl) hw hf
              · have hf := x_iN hf q_76
                refine lv_bipush (v := (10 : Int32)) hx hb dX11_begins_157 (by decide) ?_
                refine lv_iload_n hx hb dX11_begins_159 rfl (lv_at hl 1 rfl) ?_
                refine lv_imul hx hb dX11_begins_160 ?_
                refine lv_aload_n hx hb dX11_begins_161 rfl (lv_at hl 0 rfl) ?_
                refine fg_X11_16 (k2 := 3) C hw ic1_0 rfl dX11_begins_162 ?_
                refine lv_iload_n hx hb dX11_begins_165 rfl (lv_at hl 2 rfl) ?_
                obtain ⟨q_77, hf⟩ := x_gE hf
                refine x_ald C hw ic1_3 q_77 rfl dX11_begins_166 ?_
                refine lv_iadd hx hb dX11_begins_167 ?_
                refine lv_bipush (v := (48 : Int32)) hx hb dX11_begins_168 (by decide) ?_
                refine lv_isub hx hb dX11_begins_170 ?_
                refine lv_topi (fun x1_78 ex1_78 => ?_)
                have hf := x_lE ex1_78 hf
                refine lv_istore_n (lv' := [(1, .int x1_78), (0, .ref (g.2.2.1 0)), (2, .int x2_72)]) hx hb dX11_begins_171 rfl hl (by decide) rfl (fun ls hl => ?_)
                obtain ⟨x2_79, ex2_79⟩ : ∃ z : Int32, z = (x2_72 + (1 : Int32)) := ⟨_, rfl⟩
                have hf := x_lE ex2_79 hf
                refine lv_iinc (v := x2_79) (lv' := [(2, .int x2_79), (1, .int x1_78), (0, .ref (g.2.2.1 0))]) hx hb dX11_begins_172 hl (k := 2) rfl (by rw [ex2_79]; rfl) (by decide) rfl (fun ls hl => ?_)
                refine lv_goto (tgt := 149) hx hb dX11_begins_175 (by decide) ?_
                exact ih_75 _ _ _ _ _ _ (lv_sub hl [2, 1, 0] rfl) hw hf
          exact hL_80 _ _ _ _ _ _ _ (lv_sub hl [2, 1, 0] rfl) hw hf
    · have hf := x_iN hf q_39
      exact hk18_4 _ _ _ _ (lv_sub hl [0] rfl) hw hf
noncomputable def fX11_signHere (M : xM)  : Option (Int32 × xM) := if (M 0 8) = (3 : Int32) then (x_g (M 0 5) 120 (x_l (M 3 (M 0 5).toNatClampNeg) fun x_3 => if x_3 = (38 : Int32) then (some ((20 : Int32), M)) else (if x_3 = (42 : Int32) then (some ((50 : Int32), M)) else (if x_3 = (43 : Int32) then (some ((40 : Int32), M)) else (if x_3 = (45 : Int32) then (some ((41 : Int32), M)) else (if x_3 = (47 : Int32) then (some ((51 : Int32), M)) else (if x_3 = (60 : Int32) then (some ((30 : Int32), M)) else (if x_3 = (61 : Int32) then (some ((31 : Int32), M)) else (if x_3 = (62 : Int32) then (some ((32 : Int32), M)) else (if x_3 = (124 : Int32) then (some ((10 : Int32), M)) else (some ((0 : Int32), M)))))))))))) else (some ((0 : Int32), M))
set_option maxRecDepth 100000 in
set_option maxHeartbeats 4000000 in
theorem mX11_signHere (l : Launch) (g : xG)  {r : Int32} {M' : xM}  {M : xM} (hf : fX11_signHere M  = some (r, M')) : x_cI l g 1 yX11_signHere cX11_signHere 1 .int 0 0 [.ref (g.2.2.1 0)] M (fun v N => v = r ∧ N = M') := by
  refine x_stI RX11 (by decide) rfl (Nat.le_of_ble_eq_true rfl) ?_
  intro p e s m args below meth c Q ls C hw ret hl
  obtain ⟨hx, hb, hml, hown, hB, -⟩ := id C
  have hl : lv_has ls 1 [(0, .ref (g.2.2.1 0))] := hl
  unfold fX11_signHere at hf
  refine lv_aload_n hx hb dX11_signHere_0 rfl (lv_at hl 0 rfl) ?_
  refine fg_X11_119 C hw ic1_0 dX11_signHere_1 ?_
  refine lv_iconst (v := (3 : Int32)) hx hb dX11_signHere_4 (by decide) ?_
  refine lv_icmp_eq (tgt := 10) hx hb dX11_signHere_5 (by decide) (fun q_1 => ?_) (fun q_1 => ?_)
  · have hf := x_iP hf q_1
    refine lv_aload_n hx hb dX11_signHere_10 rfl (lv_at hl 0 rfl) ?_
    refine fg_X11_16 (k2 := 3) C hw ic1_0 rfl dX11_signHere_11 ?_
    refine lv_aload_n hx hb dX11_signHere_14 rfl (lv_at hl 0 rfl) ?_
    refine fg_X11_107 C hw ic1_0 dX11_signHere_15 ?_
    obtain ⟨q_2, hf⟩ := x_gE hf
    refine x_ald C hw ic1_3 q_2 rfl dX11_signHere_18 ?_
    refine lv_topi (fun x_3 ex_3 => ?_)
    have hf := x_lE ex_3 hf
    by_cases q_4 : x_3 = (38 : Int32)
    · have hf := x_iP hf q_4
      refine lv_lookup (off := 84) (tgt := 103) hx hb dX11_signHere_19 (by decide) (by rw [q_4]; rfl) (by decide) ?_
      refine lv_bipush (v := (20 : Int32)) hx hb dX11_signHere_103 (by decide) ?_
      exact ret hf dX11_signHere_105 hw
    have hf := x_iN hf q_4
    by_cases q_5 : x_3 = (42 : Int32)
    · have hf := x_iP hf q_5
      refine lv_lookup (off := 102) (tgt := 121) hx hb dX11_signHere_19 (by decide) (by rw [q_5]; rfl) (by decide) ?_
      refine lv_bipush (v := (50 : Int32)) hx hb dX11_signHere_121 (by decide) ?_
      exact ret hf dX11_signHere_123 hw
    have hf := x_iN hf q_5
    by_cases q_6 : x_3 = (43 : Int32)
    · have hf := x_iP hf q_6
      refine lv_lookup (off := 96) (tgt := 115) hx hb dX11_signHere_19 (by decide) (by rw [q_6]; rfl) (by decide) ?_
      refine lv_bipush (v := (40 : Int32)) hx hb dX11_signHere_115 (by decide) ?_
      exact ret hf dX11_signHere_117 hw
    have hf := x_iN hf q_6
    by_cases q_7 : x_3 = (45 : Int32)
    · have hf := x_iP hf q_7
      refine lv_lookup (off := 99) (tgt := 118) hx hb dX11_signHere_19 (by decide) (by rw [q_7]; rfl) (by decide) ?_
      refine lv_bipush (v := (41 : Int32)) hx hb dX11_signHere_118 (by decide) ?_
      exact ret hf dX11_signHere_120 hw
    have hf := x_iN hf q_7
    by_cases q_8 : x_3 = (47 : Int32)
    · have hf := x_iP hf q_8
      refine lv_lookup (off := 105) (tgt := 124) hx hb dX11_signHere_19 (by decide) (by rw [q_8]; rfl) (by decide) ?_
      refine lv_bipush (v := (51 : Int32)) hx hb dX11_signHere_124 (by decide) ?_
      exact ret hf dX11_signHere_126 hw
    have hf := x_iN hf q_8
    by_cases q_9 : x_3 = (60 : Int32)
    · have hf := x_iP hf q_9
      refine lv_lookup (off := 87) (tgt := 106) hx hb dX11_signHere_19 (by decide) (by rw [q_9]; rfl) (by decide) ?_
      refine lv_bipush (v := (30 : Int32)) hx hb dX11_signHere_106 (by decide) ?_
      exact ret hf dX11_signHere_108 hw
    have hf := x_iN hf q_9
    by_cases q_10 : x_3 = (61 : Int32)
    · have hf := x_iP hf q_10
      refine lv_lookup (off := 90) (tgt := 109) hx hb dX11_signHere_19 (by decide) (by rw [q_10]; rfl) (by decide) ?_
      refine lv_bipush (v := (31 : Int32)) hx hb dX11_signHere_109 (by decide) ?_
      exact ret hf dX11_signHere_111 hw
    have hf := x_iN hf q_10
    by_cases q_11 : x_3 = (62 : Int32)
    · have hf := x_iP hf q_11
      refine lv_lookup (off := 93) (tgt := 112) hx hb dX11_signHere_19 (by decide) (by rw [q_11]; rfl) (by decide) ?_
      refine lv_bipush (v := (32 : Int32)) hx hb dX11_signHere_112 (by decide) ?_
      exact ret hf dX11_signHere_114 hw
    have hf := x_iN hf q_11
    by_cases q_12 : x_3 = (124 : Int32)
    · have hf := x_iP hf q_12
      refine lv_lookup (off := 81) (tgt := 100) hx hb dX11_signHere_19 (by decide) (by rw [q_12]; rfl) (by decide) ?_
      refine lv_bipush (v := (10 : Int32)) hx hb dX11_signHere_100 (by decide) ?_
      exact ret hf dX11_signHere_102 hw
    have hf := x_iN hf q_12
    refine lv_lookup (off := 108) (tgt := 127) hx hb dX11_signHere_19 (by decide) ((lv_osw q_4 rfl).trans ((lv_osw q_5 rfl).trans ((lv_osw q_6 rfl).trans ((lv_osw q_7 rfl).trans ((lv_osw q_8 rfl).trans ((lv_osw q_9 rfl).trans ((lv_osw q_10 rfl).trans ((lv_osw q_11 rfl).trans ((lv_osw q_12 rfl).trans (rfl)))))))))) (by decide) ?_
    refine lv_iconst (v := (0 : Int32)) hx hb dX11_signHere_127 (by decide) ?_
    exact ret hf dX11_signHere_128 hw
  · have hf := x_iN hf q_1
    refine lv_iconst (v := (0 : Int32)) hx hb dX11_signHere_8 (by decide) ?_
    exact ret hf dX11_signHere_9 hw
noncomputable def fX11_expression_L19 (k208_4 : xM → Option (xM)) : Nat → xM → Int32 → Int32 → Option (xM)
  | 0, _, _, _ => none
  | n_12 + 1, M_11, x1_9, x2_10 => if x2_10 = 0 then (k208_4 M_11) else (if (M_11 0 10) = 0 then (if x1_9 = 0 then (x_b (fX11_signHere M_11) fun v_19 M_17 => x_l (fun (M_23 : xM) (x1_20 : Int32) (x2_21 : Int32) => fX11_expression_L19 k208_4 n_12 M_23 x1_20 x2_21) fun k205_22 => if v_19 = 0 then (x_b (fX11_isSign M_17 (41 : Int32)) fun v_27 M_25 => x_l (fun (M_29 : xM) => if (M_29 0 17) ≤ 0 then (k205_22 M_29 x1_9 (0 : Int32)) else (x_v (fX11_wrong M_29) fun M_31 => k205_22 M_31 x1_9 (0 : Int32))) fun k192_28 => if v_27 = 0 then (k192_28 M_25) else (if (M_25 0 17) ≤ 0 then (k192_28 M_25) else (x_v (fX11_works M_25 (1 : Int32)) fun M_35 => x_l (x_up M_35 0 16 ((M_35 0 16) - (1 : Int32))) fun M_37 => x_l (x_up M_37 0 17 ((M_37 0 17) - (1 : Int32))) fun M_38 => x_v (fX11_next M_38) fun M_39 => x_v (fX11_parted M_39) fun M_41 => k205_22 M_41 x1_9 x2_10))) else (x_l (fun (M_46 : xM) (z_44 : Int32) => x_v (fX11_works M_46 z_44) fun M_47 => x_l (fun (M_51 : xM) => x_g (M_51 0 16) 130 (x_l (x_up M_51 5 (M_51 0 16).toNatClampNeg v_19) fun M_53 => x_l (x_up M_53 0 16 ((M_53 0 16) + (1 : Int32))) fun M_54 => x_v (fX11_next M_54) fun M_55 => k205_22 M_55 (1 : Int32) x2_10)) fun k111_50 => if (v_19 / (10 : Int32)) = (3 : Int32) then (if (M_47 0 16) ≤ 0 then (k111_50 M_47) else (x_g ((M_47 0 16) - (1 : Int32)) 130 (if ((M_47 5 ((M_47 0 16) - (1 : Int32)).toNatClampNeg) / (10 : Int32)) = (3 : Int32) then (x_v (fX11_wrong M_47) fun M_62 => k205_22 M_62 x1_9 x2_10) else (k111_50 M_47)))) else (k111_50 M_47)) fun k68_45 => if (v_19 / (10 : Int32)) = (3 : Int32) then (k68_45 M_17 (4 : Int32)) else (k68_45 M_17 (v_19 / (10 : Int32))))) else (x_b (fX11_begins M_11) fun v_68 M_66 => fX11_expression_L19 k208_4 n_12 M_66 v_68 x2_10)) else (k208_4 M_11))
noncomputable def fX11_expression (M : xM)  : Option (xM) := x_l (x_up M 0 16 (0 : Int32)) fun M_1 => x_l (x_up M_1 0 17 (0 : Int32)) fun M_2 => x_l (x_up M_2 0 18 (0 : Int32)) fun M_3 => x_l (fun (M_5 : xM) => if (M_5 0 10) = 0 then (x_v (fX11_works M_5 (1 : Int32)) fun M_7 => some M_7) else (some M_5)) fun k208_4 => fX11_expression_L19 k208_4 x_FU M_3 (1 : Int32) (1 : Int32)
set_option maxRecDepth 100000 in
set_option maxHeartbeats 4000000 in
theorem mX11_expression (l : Launch) (g : xG)  {M' : xM}  {M : xM} (hf : fX11_expression M  = some M') : x_cV l g 1 yX11_expression cX11_expression 4 4 86 [.ref (g.2.2.1 0)] M (fun N => N = M') := by
  refine x_stV RX11 (by decide) rfl (Nat.le_of_ble_eq_true rfl) ?_
  intro p e s m args below meth c Q ls C hw ret hl
  obtain ⟨hx, hb, hml, hown, hB, -⟩ := id C
  have hl : lv_has ls 4 [(0, .ref (g.2.2.1 0))] := hl
  unfold fX11_expression at hf
  refine lv_aload_n hx hb dX11_expression_0 rfl (lv_at hl 0 rfl) ?_
  refine lv_iconst (v := (0 : Int32)) hx hb dX11_expression_1 (by decide) ?_
  refine fp_X11_138 C hw ic1_0 dX11_expression_2 (fun H locs hw => ?_)
  obtain ⟨M_1, eM_1⟩ : ∃ z, z = (x_up M 0 16 (0 : Int32)) := ⟨_, rfl⟩
  rw [← eM_1] at hw
  have hf := x_lE eM_1 hf
  refine lv_aload_n hx hb dX11_expression_5 rfl (lv_at hl 0 rfl) ?_
  refine lv_iconst (v := (0 : Int32)) hx hb dX11_expression_6 (by decide) ?_
  refine fp_X11_151 C hw ic1_0 dX11_expression_7 (fun H locs hw => ?_)
  obtain ⟨M_2, eM_2⟩ : ∃ z, z = (x_up M_1 0 17 (0 : Int32)) := ⟨_, rfl⟩
  rw [← eM_2] at hw
  have hf := x_lE eM_2 hf
  refine lv_aload_n hx hb dX11_expression_10 rfl (lv_at hl 0 rfl) ?_
  refine lv_iconst (v := (0 : Int32)) hx hb dX11_expression_11 (by decide) ?_
  refine fp_X11_145 C hw ic1_0 dX11_expression_12 (fun H locs hw => ?_)
  obtain ⟨M_3, eM_3⟩ : ∃ z, z = (x_up M_2 0 18 (0 : Int32)) := ⟨_, rfl⟩
  rw [← eM_3] at hw
  have hf := x_lE eM_3 hf
  refine lv_iconst (v := (1 : Int32)) hx hb dX11_expression_15 (by decide) ?_
  refine lv_istore_n (lv' := [(1, .int (1 : Int32)), (0, .ref (g.2.2.1 0))]) hx hb dX11_expression_16 rfl hl (by decide) rfl (fun ls hl => ?_)
  refine lv_iconst (v := (1 : Int32)) hx hb dX11_expression_17 (by decide) ?_
  refine lv_istore_n (lv' := [(2, .int (1 : Int32)), (1, .int (1 : Int32)), (0, .ref (g.2.2.1 0))]) hx hb dX11_expression_18 rfl hl (by decide) rfl (fun ls hl => ?_)
  obtain ⟨k208_4, ek208_4, hf⟩ := x_jE hf
  have hk208_4 : ∀ (H : Heap) (locs : List Loc) (M_5 : xM)  (ls : Array Slot) , lv_has ls 4 [(0, .ref (g.2.2.1 0))] → x_w g 1 s H locs M_5 → k208_4 M_5 = some M' → W p l e (x_rm 4 86) s m args below meth c H locs 0 0 Q (F0 m 208 ls []) := by
    intro H locs M_5  ls  hl hw hf
    rw [ek208_4] at hf
    refine lv_aload_n hx hb dX11_expression_208 rfl (lv_at hl 0 rfl) ?_
    refine fg_X11_103 C hw ic1_0 dX11_expression_209 ?_
    refine lv_if_ne (tgt := 220) hx hb dX11_expression_212 (by decide) (fun q_6 => ?_) (fun q_6 => ?_)
    · have hf := x_iN hf q_6
      exact ret hf dX11_expression_220 hw
    · have hf := x_iP hf q_6
      refine lv_aload_n hx hb dX11_expression_215 rfl (lv_at hl 0 rfl) ?_
      refine lv_iconst (v := (1 : Int32)) hx hb dX11_expression_216 (by decide) ?_
      obtain ⟨tM_7, c_8, hf⟩ := x_vE hf
      refine x_vV C hw hl.1 [.int (1 : Int32)] [] (mX11_works l g c_8) lk_X11_174 ic1_0 (by decide) rfl (by decide) rfl (Nat.le_of_ble_eq_true rfl) ⟨Nat.zero_le _, Nat.zero_le _⟩ dX11_expression_217 (fun M_7 H locs hN hw => ?_)
      obtain rfl := hN
      exact ret hf dX11_expression_220 hw
  have hL_69 : ∀ (n_12 : Nat) (H : Heap) (locs : List Loc) (M_11 : xM) (x1_9 : Int32) (x2_10 : Int32) (ls : Array Slot) , lv_has ls 4 [(0, .ref (g.2.2.1 0)), (1, .int x1_9), (2, .int x2_10)] → x_w g 1 s H locs M_11 → fX11_expression_L19 k208_4 n_12 M_11 x1_9 x2_10 = some M' → W p l e (x_rm 4 86) s m args below meth c H locs 0 0 Q (F0 m 19 ls []) := by
    intro n_12
    induction n_12 with
    | zero =>
      intro H locs M_11 x1_9 x2_10 ls  hl hw hf
      rw [fX11_expression_L19] at hf
      cases hf
    | succ n_12 ih_13 =>
      intro H locs M_11 x1_9 x2_10 ls  hl hw hf
      rw [fX11_expression_L19] at hf
      refine lv_iload_n hx hb dX11_expression_19 rfl (lv_at hl 2 rfl) ?_
      refine lv_if_eq (tgt := 208) hx hb dX11_expression_20 (by decide) (fun q_14 => ?_) (fun q_14 => ?_)
      · have hf := x_iP hf q_14
        exact hk208_4 _ _ _ _ (lv_sub hl [0] rfl) hw hf
      · have hf := x_iN hf q_14
        refine lv_aload_n hx hb dX11_expression_23 rfl (lv_at hl 0 rfl) ?_
        refine fg_X11_103 C hw ic1_0 dX11_expression_24 ?_
        refine lv_if_ne (tgt := 208) hx hb dX11_expression_27 (by decide) (fun q_15 => ?_) (fun q_15 => ?_)
        · have hf := x_iN hf q_15
          exact hk208_4 _ _ _ _ (lv_sub hl [0] rfl) hw hf
        · have hf := x_iP hf q_15
          refine lv_iload_n hx hb dX11_expression_30 rfl (lv_at hl 1 rfl) ?_
          refine lv_if_eq (tgt := 42) hx hb dX11_expression_31 (by decide) (fun q_16 => ?_) (fun q_16 => ?_)
          · have hf := x_iP hf q_16
            refine lv_aload_n hx hb dX11_expression_42 rfl (lv_at hl 0 rfl) ?_
            obtain ⟨tv_19, tM_17, c_18, hf⟩ := x_bE hf
            refine x_vI C hw hl.1 [] [] (mX11_signHere l g c_18) lk_X11_170 ic1_0 (by decide) rfl (by decide) rfl (Nat.le_of_ble_eq_true rfl) ⟨Nat.zero_le _, Nat.zero_le _⟩ dX11_expression_43 (fun v_19 M_17 H locs hN hw => ?_)
            obtain ⟨rfl, rfl⟩ := hN
            refine lv_istore_n (lv' := [(3, .int v_19), (0, .ref (g.2.2.1 0)), (1, .int x1_9), (2, .int x2_10)]) hx hb dX11_expression_46 rfl hl (by decide) rfl (fun ls hl => ?_)
            refine lv_iload_n hx hb dX11_expression_47 rfl (lv_at hl 0 rfl) ?_
            obtain ⟨k205_22, ek205_22, hf⟩ := x_jE hf
            have hk205_22 : ∀ (H : Heap) (locs : List Loc) (M_23 : xM) (x1_20 : Int32) (x2_21 : Int32) (ls : Array Slot) , lv_has ls 4 [(0, .ref (g.2.2.1 0)), (1, .int x1_20), (2, .int x2_21)] → x_w g 1 s H locs M_23 → k205_22 M_23 x1_20 x2_21 = some M' → W p l e (x_rm 4 86) s m args below meth c H locs 0 0 Q (F0 m 205 ls []) := by
              intro H locs M_23 x1_20 x2_21 ls  hl hw hf
              rw [ek205_22] at hf
              refine lv_goto (tgt := 19) hx hb dX11_expression_205 (by decide) ?_
              exact ih_13 _ _ _ _ _ _ (lv_sub hl [0, 1, 2] rfl) hw hf
            refine lv_if_eq (tgt := 140) hx hb dX11_expression_48 (by decide) (fun q_24 => ?_) (fun q_24 => ?_)
            · have hf := x_iP hf q_24
              refine lv_aload_n hx hb dX11_expression_140 rfl (lv_at hl 1 rfl) ?_
              refine lv_bipush (v := (41 : Int32)) hx hb dX11_expression_141 (by decide) ?_
              obtain ⟨tv_27, tM_25, c_26, hf⟩ := x_bE hf
              refine x_vI C hw hl.1 [.int (41 : Int32)] [] (mX11_isSign l g c_26) lk_X11_148 ic1_0 (by decide) rfl (by decide) rfl (Nat.le_of_ble_eq_true rfl) ⟨Nat.zero_le _, Nat.zero_le _⟩ dX11_expression_143 (fun v_27 M_25 H locs hN hw => ?_)
              obtain ⟨rfl, rfl⟩ := hN
              obtain ⟨k192_28, ek192_28, hf⟩ := x_jE hf
              have hk192_28 : ∀ (H : Heap) (locs : List Loc) (M_29 : xM)  (ls : Array Slot) , lv_has ls 4 [(0, .ref (g.2.2.1 0)), (1, .int x1_9)] → x_w g 1 s H locs M_29 → k192_28 M_29 = some M' → W p l e (x_rm 4 86) s m args below meth c H locs 0 0 Q (F0 m 192 ls []) := by
                intro H locs M_29  ls  hl hw hf
                rw [ek192_28] at hf
                refine lv_iconst (v := (0 : Int32)) hx hb dX11_expression_192 (by decide) ?_
                refine lv_istore_n (lv' := [(2, .int (0 : Int32)), (0, .ref (g.2.2.1 0)), (1, .int x1_9)]) hx hb dX11_expression_193 rfl hl (by decide) rfl (fun ls hl => ?_)
                refine lv_aload_n hx hb dX11_expression_194 rfl (lv_at hl 1 rfl) ?_
                refine fg_X11_151 C hw ic1_0 dX11_expression_195 ?_
                refine lv_if_le (tgt := 205) hx hb dX11_expression_198 (by decide) (fun q_30 => ?_) (fun q_30 => ?_)
                · have hf := x_iP hf q_30
                  exact hk205_22 _ _ _ _ _ _ (lv_sub hl [1, 2, 0] rfl) hw hf
                · have hf := x_iN hf q_30
                  refine lv_aload_n hx hb dX11_expression_201 rfl (lv_at hl 1 rfl) ?_
                  obtain ⟨tM_31, c_32, hf⟩ := x_vE hf
                  refine x_vV C hw hl.1 [] [] (mX11_wrong l g c_32) lk_X11_125 ic1_0 (by decide) rfl (by decide) rfl (Nat.le_of_ble_eq_true rfl) ⟨Nat.zero_le _, Nat.zero_le _⟩ dX11_expression_202 (fun M_31 H locs hN hw => ?_)
                  obtain rfl := hN
                  exact hk205_22 _ _ _ _ _ _ (lv_sub hl [1, 2, 0] rfl) hw hf
              refine lv_if_eq (tgt := 192) hx hb dX11_expression_146 (by decide) (fun q_33 => ?_) (fun q_33 => ?_)
              · have hf := x_iP hf q_33
                exact hk192_28 _ _ _ _ (lv_sub hl [1, 2] rfl) hw hf
              · have hf := x_iN hf q_33
                refine lv_aload_n hx hb dX11_expression_149 rfl (lv_at hl 1 rfl) ?_
                refine fg_X11_151 C hw ic1_0 dX11_expression_150 ?_
                refine lv_if_le (tgt := 192) hx hb dX11_expression_153 (by decide) (fun q_34 => ?_) (fun q_34 => ?_)
                · have hf := x_iP hf q_34
                  exact hk192_28 _ _ _ _ (lv_sub hl [1, 2] rfl) hw hf
                · have hf := x_iN hf q_34
                  refine lv_aload_n hx hb dX11_expression_156 rfl (lv_at hl 1 rfl) ?_
                  refine lv_iconst (v := (1 : Int32)) hx hb dX11_expression_157 (by decide) ?_
                  obtain ⟨tM_35, c_36, hf⟩ := x_vE hf
                  refine x_vV C hw hl.1 [.int (1 : Int32)] [] (mX11_works l g c_36) lk_X11_174 ic1_0 (by decide) rfl (by decide) rfl (Nat.le_of_ble_eq_true rfl) ⟨Nat.zero_le _, Nat.zero_le _⟩ dX11_expression_158 (fun M_35 H locs hN hw => ?_)
                  obtain rfl := hN
                  refine lv_aload_n hx hb dX11_expression_161 rfl (lv_at hl 1 rfl) ?_
                  refine lv_dup hx hb dX11_expression_162 rfl ?_
                  refine fg_X11_138 C hw ic1_0 dX11_expression_163 ?_
                  refine lv_iconst (v := (1 : Int32)) hx hb dX11_expression_166 (by decide) ?_
                  refine lv_isub hx hb dX11_expression_167 ?_
                  refine fp_X11_138 C hw ic1_0 dX11_expression_168 (fun H locs hw => ?_)
                  obtain ⟨M_37, eM_37⟩ : ∃ z, z = (x_up M_35 0 16 ((M_35 0 16) - (1 : Int32))) := ⟨_, rfl⟩
                  rw [← eM_37] at hw
                  have hf := x_lE eM_37 hf
                  refine lv_aload_n hx hb dX11_expression_171 rfl (lv_at hl 1 rfl) ?_
                  refine lv_dup hx hb dX11_expression_172 rfl ?_
                  refine fg_X11_151 C hw ic1_0 dX11_expression_173 ?_
                  refine lv_iconst (v := (1 : Int32)) hx hb dX11_expression_176 (by decide) ?_
                  refine lv_isub hx hb dX11_expression_177 ?_
                  refine fp_X11_151 C hw ic1_0 dX11_expression_178 (fun H locs hw => ?_)
                  obtain ⟨M_38, eM_38⟩ : ∃ z, z = (x_up M_37 0 17 ((M_37 0 17) - (1 : Int32))) := ⟨_, rfl⟩
                  rw [← eM_38] at hw
                  have hf := x_lE eM_38 hf
                  refine lv_aload_n hx hb dX11_expression_181 rfl (lv_at hl 1 rfl) ?_
                  obtain ⟨tM_39, c_40, hf⟩ := x_vE hf
                  refine x_vV C hw hl.1 [] [] (mX11_next l g c_40) lk_X11_154 ic1_0 (by decide) rfl (by decide) rfl (Nat.le_of_ble_eq_true rfl) ⟨Nat.zero_le _, Nat.zero_le _⟩ dX11_expression_182 (fun M_39 H locs hN hw => ?_)
                  obtain rfl := hN
                  refine lv_aload_n hx hb dX11_expression_185 rfl (lv_at hl 1 rfl) ?_
                  obtain ⟨tM_41, c_42, hf⟩ := x_vE hf
                  refine x_vV C hw hl.1 [] [] (mX11_parted l g c_42) lk_X11_163 ic1_0 (by decide) rfl (by decide) rfl (Nat.le_of_ble_eq_true rfl) ⟨Nat.zero_le _, Nat.zero_le _⟩ dX11_expression_186 (fun M_41 H locs hN hw => ?_)
                  obtain rfl := hN
                  refine lv_goto (tgt := 205) hx hb dX11_expression_189 (by decide) ?_
                  exact hk205_22 _ _ _ _ _ _ (lv_sub hl [1, 2, 3] rfl) hw hf
            · have hf := x_iN hf q_24
              refine lv_aload_n hx hb dX11_expression_51 rfl (lv_at hl 1 rfl) ?_
              refine lv_iload_n hx hb dX11_expression_52 rfl (lv_at hl 0 rfl) ?_
              refine lv_bipush (v := (10 : Int32)) hx hb dX11_expression_53 (by decide) ?_
              refine lv_idiv hx hb dX11_expression_55 (by decide) ?_
              refine lv_iconst (v := (3 : Int32)) hx hb dX11_expression_56 (by decide) ?_
              obtain ⟨k68_45, ek68_45, hf⟩ := x_jE hf
              have hk68_45 : ∀ (H : Heap) (locs : List Loc) (M_46 : xM) (z_44 : Int32) (ls : Array Slot) , lv_has ls 4 [(3, .int v_19), (0, .ref (g.2.2.1 0)), (1, .int x1_9), (2, .int x2_10)] → x_w g 1 s H locs M_46 → k68_45 M_46 z_44 = some M' → W p l e (x_rm 4 86) s m args below meth c H locs 0 0 Q (F0 m 68 ls [.int z_44, .ref (g.2.2.1 0)]) := by
                intro H locs M_46 z_44 ls  hl hw hf
                rw [ek68_45] at hf
                obtain ⟨tM_47, c_48, hf⟩ := x_vE hf
                refine x_vV C hw hl.1 [.int z_44] [] (mX11_works l g c_48) lk_X11_174 ic1_0 (by decide) rfl (by decide) rfl (Nat.le_of_ble_eq_true rfl) ⟨Nat.zero_le _, Nat.zero_le _⟩ dX11_expression_68 (fun M_47 H locs hN hw => ?_)
                obtain rfl := hN
                refine lv_iload_n hx hb dX11_expression_71 rfl (lv_at hl 0 rfl) ?_
                refine lv_bipush (v := (10 : Int32)) hx hb dX11_expression_72 (by decide) ?_
                refine lv_idiv hx hb dX11_expression_74 (by decide) ?_
                refine lv_iconst (v := (3 : Int32)) hx hb dX11_expression_75 (by decide) ?_
                obtain ⟨k111_50, ek111_50, hf⟩ := x_jE hf
                have hk111_50 : ∀ (H : Heap) (locs : List Loc) (M_51 : xM)  (ls : Array Slot) , lv_has ls 4 [(3, .int v_19), (0, .ref (g.2.2.1 0)), (2, .int x2_10)] → x_w g 1 s H locs M_51 → k111_50 M_51 = some M' → W p l e (x_rm 4 86) s m args below meth c H locs 0 0 Q (F0 m 111 ls []) := by
                  intro H locs M_51  ls  hl hw hf
                  rw [ek111_50] at hf
                  refine lv_aload_n hx hb dX11_expression_111 rfl (lv_at hl 1 rfl) ?_
                  refine fg_X11_22 (k2 := 5) C hw ic1_0 rfl dX11_expression_112 ?_
                  refine lv_aload_n hx hb dX11_expression_115 rfl (lv_at hl 1 rfl) ?_
                  refine fg_X11_138 C hw ic1_0 dX11_expression_116 ?_
                  refine lv_iload_n hx hb dX11_expression_119 rfl (lv_at hl 0 rfl) ?_
                  obtain ⟨q_52, hf⟩ := x_gE hf
                  refine x_ast C hw ic1_5 q_52 rfl dX11_expression_120 (fun H locs hw => ?_)
                  obtain ⟨M_53, eM_53⟩ : ∃ z, z = (x_up M_51 5 (M_51 0 16).toNatClampNeg v_19) := ⟨_, rfl⟩
                  rw [← eM_53] at hw
                  have hf := x_lE eM_53 hf
                  refine lv_aload_n hx hb dX11_expression_121 rfl (lv_at hl 1 rfl) ?_
                  refine lv_dup hx hb dX11_expression_122 rfl ?_
                  refine fg_X11_138 C hw ic1_0 dX11_expression_123 ?_
                  refine lv_iconst (v := (1 : Int32)) hx hb dX11_expression_126 (by decide) ?_
                  refine lv_iadd hx hb dX11_expression_127 ?_
                  refine fp_X11_138 C hw ic1_0 dX11_expression_128 (fun H locs hw => ?_)
                  obtain ⟨M_54, eM_54⟩ : ∃ z, z = (x_up M_53 0 16 ((M_53 0 16) + (1 : Int32))) := ⟨_, rfl⟩
                  rw [← eM_54] at hw
                  have hf := x_lE eM_54 hf
                  refine lv_iconst (v := (1 : Int32)) hx hb dX11_expression_131 (by decide) ?_
                  refine lv_istore_n (lv' := [(1, .int (1 : Int32)), (3, .int v_19), (0, .ref (g.2.2.1 0)), (2, .int x2_10)]) hx hb dX11_expression_132 rfl hl (by decide) rfl (fun ls hl => ?_)
                  refine lv_aload_n hx hb dX11_expression_133 rfl (lv_at hl 2 rfl) ?_
                  obtain ⟨tM_55, c_56, hf⟩ := x_vE hf
                  refine x_vV C hw hl.1 [] [] (mX11_next l g c_56) lk_X11_154 ic1_0 (by decide) rfl (by decide) rfl (Nat.le_of_ble_eq_true rfl) ⟨Nat.zero_le _, Nat.zero_le _⟩ dX11_expression_134 (fun M_55 H locs hN hw => ?_)
                  obtain rfl := hN
                  refine lv_goto (tgt := 205) hx hb dX11_expression_137 (by decide) ?_
                  exact hk205_22 _ _ _ _ _ _ (lv_sub hl [2, 0, 3] rfl) hw hf
                refine lv_icmp_ne (tgt := 111) hx hb dX11_expression_76 (by decide) (fun q_57 => ?_) (fun q_57 => ?_)
                · have hf := x_iN hf q_57
                  exact hk111_50 _ _ _ _ (lv_sub hl [0, 1, 3] rfl) hw hf
                · have hf := x_iP hf q_57
                  refine lv_aload_n hx hb dX11_expression_79 rfl (lv_at hl 1 rfl) ?_
                  refine fg_X11_138 C hw ic1_0 dX11_expression_80 ?_
                  refine lv_if_le (tgt := 111) hx hb dX11_expression_83 (by decide) (fun q_58 => ?_) (fun q_58 => ?_)
                  · have hf := x_iP hf q_58
                    exact hk111_50 _ _ _ _ (lv_sub hl [0, 1, 3] rfl) hw hf
                  · have hf := x_iN hf q_58
                    refine lv_aload_n hx hb dX11_expression_86 rfl (lv_at hl 1 rfl) ?_
                    refine fg_X11_22 (k2 := 5) C hw ic1_0 rfl dX11_expression_87 ?_
                    refine lv_aload_n hx hb dX11_expression_90 rfl (lv_at hl 1 rfl) ?_
                    refine fg_X11_138 C hw ic1_0 dX11_expression_91 ?_
                    refine lv_iconst (v := (1 : Int32)) hx hb dX11_expression_94 (by decide) ?_
                    refine lv_isub hx hb dX11_expression_95 ?_
                    obtain ⟨q_59, hf⟩ := x_gE hf
                    refine x_ald C hw ic1_5 q_59 rfl dX11_expression_96 ?_
                    refine lv_bipush (v := (10 : Int32)) hx hb dX11_expression_97 (by decide) ?_
                    refine lv_idiv hx hb dX11_expression_99 (by decide) ?_
                    refine lv_iconst (v := (3 : Int32)) hx hb dX11_expression_100 (by decide) ?_
                    refine lv_icmp_ne (tgt := 111) hx hb dX11_expression_101 (by decide) (fun q_61 => ?_) (fun q_61 => ?_)
                    · have hf := x_iN hf q_61
                      exact hk111_50 _ _ _ _ (lv_sub hl [0, 1, 3] rfl) hw hf
                    · have hf := x_iP hf q_61
                      refine lv_aload_n hx hb dX11_expression_104 rfl (lv_at hl 1 rfl) ?_
                      obtain ⟨tM_62, c_63, hf⟩ := x_vE hf
                      refine x_vV C hw hl.1 [] [] (mX11_wrong l g c_63) lk_X11_125 ic1_0 (by decide) rfl (by decide) rfl (Nat.le_of_ble_eq_true rfl) ⟨Nat.zero_le _, Nat.zero_le _⟩ dX11_expression_105 (fun M_62 H locs hN hw => ?_)
                      obtain rfl := hN
                      refine lv_goto (tgt := 205) hx hb dX11_expression_108 (by decide) ?_
                      exact hk205_22 _ _ _ _ _ _ (lv_sub hl [1, 2, 3] rfl) hw hf
              refine lv_icmp_ne (tgt := 64) hx hb dX11_expression_57 (by decide) (fun q_64 => ?_) (fun q_64 => ?_)
              · have hf := x_iN hf q_64
                refine lv_iload_n hx hb dX11_expression_64 rfl (lv_at hl 0 rfl) ?_
                refine lv_bipush (v := (10 : Int32)) hx hb dX11_expression_65 (by decide) ?_
                refine lv_idiv hx hb dX11_expression_67 (by decide) ?_
                exact hk68_45 _ _ _ _ _ (lv_sub hl [0, 1, 2, 3] rfl) hw hf
              · have hf := x_iP hf q_64
                refine lv_iconst (v := (4 : Int32)) hx hb dX11_expression_60 (by decide) ?_
                refine lv_goto (tgt := 68) hx hb dX11_expression_61 (by decide) ?_
                exact hk68_45 _ _ _ _ _ (lv_sub hl [0, 1, 2, 3] rfl) hw hf
          · have hf := x_iN hf q_16
            refine lv_aload_n hx hb dX11_expression_34 rfl (lv_at hl 0 rfl) ?_
            obtain ⟨tv_68, tM_66, c_67, hf⟩ := x_bE hf
            refine x_vI C hw hl.1 [] [] (mX11_begins l g c_67) lk_X11_166 ic1_0 (by decide) rfl (by decide) rfl (Nat.le_of_ble_eq_true rfl) ⟨Nat.zero_le _, Nat.zero_le _⟩ dX11_expression_35 (fun v_68 M_66 H locs hN hw => ?_)
            obtain ⟨rfl, rfl⟩ := hN
            refine lv_istore_n (lv' := [(1, .int v_68), (0, .ref (g.2.2.1 0)), (2, .int x2_10)]) hx hb dX11_expression_38 rfl hl (by decide) rfl (fun ls hl => ?_)
            refine lv_goto (tgt := 19) hx hb dX11_expression_39 (by decide) ?_
            exact ih_13 _ _ _ _ _ _ (lv_sub hl [1, 0, 2] rfl) hw hf
  exact hL_69 _ _ _ _ _ _ _ (lv_sub hl [2, 1, 0] rfl) hw hf
noncomputable def fX11_reads (M : xM) (a1 : Int32) (a2 : Int32) : Option (xM) := if (M 0 10) = 0 then (x_l (x_up M 0 11 a1) fun M_2 => x_l (x_up M_2 0 12 (0 : Int32)) fun M_3 => x_l (fun (M_5 : xM) => x_v (fX11_next M_5) fun M_6 => x_v (fX11_expression M_6) fun M_8 => x_g ((241 : Int32) * a1) 723 (x_l (x_up M_8 4 ((241 : Int32) * a1).toNatClampNeg (M_8 0 12)) fun M_11 => some M_11)) fun k26_4 => if a2 = 0 then (x_v (fX11_wrong M_3) fun M_13 => k26_4 M_13) else (k26_4 M_3)) else (some M)
set_option maxRecDepth 100000 in
set_option maxHeartbeats 4000000 in
theorem mX11_reads (l : Launch) (g : xG) {a1 : Int32} {a2 : Int32} {M' : xM}  {M : xM} (hf : fX11_reads M a1 a2 = some M') : x_cV l g 1 yX11_reads cX11_reads 3 5 109 [.ref (g.2.2.1 0), .int a1, .int a2] M (fun N => N = M') := by
  refine x_stV RX11 (by decide) rfl (Nat.le_of_ble_eq_true rfl) ?_
  intro p e s m args below meth c Q ls C hw ret hl
  obtain ⟨hx, hb, hml, hown, hB, -⟩ := id C
  have hl : lv_has ls 3 [(0, .ref (g.2.2.1 0)), (1, .int a1), (2, .int a2)] := hl
  unfold fX11_reads at hf
  refine lv_aload_n hx hb dX11_reads_0 rfl (lv_at hl 0 rfl) ?_
  refine fg_X11_103 C hw ic1_0 dX11_reads_1 ?_
  refine lv_if_eq (tgt := 8) hx hb dX11_reads_4 (by decide) (fun q_1 => ?_) (fun q_1 => ?_)
  · have hf := x_iP hf q_1
    refine lv_aload_n hx hb dX11_reads_8 rfl (lv_at hl 0 rfl) ?_
    refine lv_iload_n hx hb dX11_reads_9 rfl (lv_at hl 1 rfl) ?_
    refine fp_X11_132 C hw ic1_0 dX11_reads_10 (fun H locs hw => ?_)
    obtain ⟨M_2, eM_2⟩ : ∃ z, z = (x_up M 0 11 a1) := ⟨_, rfl⟩
    rw [← eM_2] at hw
    have hf := x_lE eM_2 hf
    refine lv_aload_n hx hb dX11_reads_13 rfl (lv_at hl 0 rfl) ?_
    refine lv_iconst (v := (0 : Int32)) hx hb dX11_reads_14 (by decide) ?_
    refine fp_X11_135 C hw ic1_0 dX11_reads_15 (fun H locs hw => ?_)
    obtain ⟨M_3, eM_3⟩ : ∃ z, z = (x_up M_2 0 12 (0 : Int32)) := ⟨_, rfl⟩
    rw [← eM_3] at hw
    have hf := x_lE eM_3 hf
    refine lv_iload_n hx hb dX11_reads_18 rfl (lv_at hl 2 rfl) ?_
    obtain ⟨k26_4, ek26_4, hf⟩ := x_jE hf
    have hk26_4 : ∀ (H : Heap) (locs : List Loc) (M_5 : xM)  (ls : Array Slot) , lv_has ls 3 [(0, .ref (g.2.2.1 0)), (1, .int a1)] → x_w g 1 s H locs M_5 → k26_4 M_5 = some M' → W p l e (x_rm 5 109) s m args below meth c H locs 0 0 Q (F0 m 26 ls []) := by
      intro H locs M_5  ls  hl hw hf
      rw [ek26_4] at hf
      refine lv_aload_n hx hb dX11_reads_26 rfl (lv_at hl 0 rfl) ?_
      obtain ⟨tM_6, c_7, hf⟩ := x_vE hf
      refine x_vV C hw hl.1 [] [] (mX11_next l g c_7) lk_X11_154 ic1_0 (by decide) rfl (by decide) rfl (Nat.le_of_ble_eq_true rfl) ⟨Nat.zero_le _, Nat.zero_le _⟩ dX11_reads_27 (fun M_6 H locs hN hw => ?_)
      obtain rfl := hN
      refine lv_aload_n hx hb dX11_reads_30 rfl (lv_at hl 0 rfl) ?_
      obtain ⟨tM_8, c_9, hf⟩ := x_vE hf
      refine x_vV C hw hl.1 [] [] (mX11_expression l g c_9) lk_X11_178 ic1_0 (by decide) rfl (by decide) rfl (Nat.le_of_ble_eq_true rfl) ⟨Nat.zero_le _, Nat.zero_le _⟩ dX11_reads_31 (fun M_8 H locs hN hw => ?_)
      obtain rfl := hN
      refine lv_aload_n hx hb dX11_reads_34 rfl (lv_at hl 0 rfl) ?_
      refine fg_X11_19 (k2 := 4) C hw ic1_0 rfl dX11_reads_35 ?_
      refine lv_sipush (v := (241 : Int32)) hx hb dX11_reads_38 (by decide) ?_
      refine lv_iload_n hx hb dX11_reads_41 rfl (lv_at hl 1 rfl) ?_
      refine lv_imul hx hb dX11_reads_42 ?_
      refine lv_aload_n hx hb dX11_reads_43 rfl (lv_at hl 0 rfl) ?_
      refine fg_X11_135 C hw ic1_0 dX11_reads_44 ?_
      obtain ⟨q_10, hf⟩ := x_gE hf
      refine x_ast C hw ic1_4 q_10 rfl dX11_reads_47 (fun H locs hw => ?_)
      obtain ⟨M_11, eM_11⟩ : ∃ z, z = (x_up M_8 4 ((241 : Int32) * a1).toNatClampNeg (M_8 0 12)) := ⟨_, rfl⟩
      rw [← eM_11] at hw
      have hf := x_lE eM_11 hf
      exact ret hf dX11_reads_48 hw
    refine lv_if_ne (tgt := 26) hx hb dX11_reads_19 (by decide) (fun q_12 => ?_) (fun q_12 => ?_)
    · have hf := x_iN hf q_12
      exact hk26_4 _ _ _ _ (lv_sub hl [0, 1] rfl) hw hf
    · have hf := x_iP hf q_12
      refine lv_aload_n hx hb dX11_reads_22 rfl (lv_at hl 0 rfl) ?_
      obtain ⟨tM_13, c_14, hf⟩ := x_vE hf
      refine x_vV C hw hl.1 [] [] (mX11_wrong l g c_14) lk_X11_125 ic1_0 (by decide) rfl (by decide) rfl (Nat.le_of_ble_eq_true rfl) ⟨Nat.zero_le _, Nat.zero_le _⟩ dX11_reads_23 (fun M_13 H locs hN hw => ?_)
      obtain rfl := hN
      exact hk26_4 _ _ _ _ (lv_sub hl [0, 1] rfl) hw hf
  · have hf := x_iN hf q_1
    exact ret hf dX11_reads_7 hw
noncomputable def fX11_law_L126 (k155_27 : xM → Option (Int32 × xM)) : Nat → xM → Int32 → Option (Int32 × xM)
  | 0, _, _ => none
  | n_33 + 1, M_32, x1_31 => if (723 : Int32) ≤ x1_31 then (k155_27 M_32) else (x_g x1_31 723 (x_g ((952 : Int32) + x1_31) 1675 (x_l (x_up M_32 1 ((952 : Int32) + x1_31).toNatClampNeg (M_32 4 x1_31.toNatClampNeg)) fun M_38 => x_l (x1_31 + (1 : Int32)) fun x1_39 => fX11_law_L126 k155_27 n_33 M_38 x1_39)))
noncomputable def fX11_law (M : xM)  : Option (Int32 × xM) := x_l (x_up M 0 7 (M 0 4)) fun M_1 => x_l (x_up M_1 0 4 (0 : Int32)) fun M_2 => x_l (x_up M_2 0 6 (0 : Int32)) fun M_3 => x_l (x_up M_3 0 8 (0 : Int32)) fun M_4 => x_l (x_up M_4 0 10 (0 : Int32)) fun M_5 => x_l (x_up M_5 0 13 (0 : Int32)) fun M_6 => x_v (fX11_next M_6) fun M_7 => x_b (fX11_isWord M_7 (100 : Int32) (97 : Int32) (121 : Int32) (115 : Int32) (0 : Int32)) fun v_11 M_9 => x_v (fX11_reads M_9 (0 : Int32) v_11) fun M_12 => x_b (fX11_isWord M_12 (115 : Int32) (117 : Int32) (109 : Int32) (0 : Int32) (0 : Int32)) fun v_16 M_14 => x_v (fX11_reads M_14 (1 : Int32) v_16) fun M_17 => x_b (fX11_isWord M_17 (104 : Int32) (111 : Int32) (117 : Int32) (114 : Int32) (115 : Int32)) fun v_21 M_19 => x_v (fX11_reads M_19 (2 : Int32) v_21) fun M_22 => x_l (fun (M_25 : xM) => if (M_25 0 10) = 0 then (x_l (fun (M_28 : xM) => x_l (x_up M_28 1 21 (1 : Int32)) fun M_30 => some ((M_30 0 13), M_30)) fun k155_27 => fX11_law_L126 k155_27 x_FU M_25 (0 : Int32)) else (some (((-100 : Int32) - (M_25 0 9)), M_25))) fun k109_24 => if (M_22 0 10) = 0 then (if (M_22 0 8) = 0 then (k109_24 M_22) else (x_v (fX11_wrong M_22) fun M_43 => k109_24 M_43)) else (k109_24 M_22)
set_option maxRecDepth 100000 in
set_option maxHeartbeats 4000000 in
theorem mX11_law (l : Launch) (g : xG)  {r : Int32} {M' : xM}  {M : xM} (hf : fX11_law M  = some (r, M')) : x_cI l g 1 yX11_law cX11_law 2 .int 6 131 [.ref (g.2.2.1 0)] M (fun v N => v = r ∧ N = M') := by
  refine x_stI RX11 (by decide) rfl (Nat.le_of_ble_eq_true rfl) ?_
  intro p e s m args below meth c Q ls C hw ret hl
  obtain ⟨hx, hb, hml, hown, hB, -⟩ := id C
  have hl : lv_has ls 2 [(0, .ref (g.2.2.1 0))] := hl
  unfold fX11_law at hf
  refine lv_aload_n hx hb dX11_law_0 rfl (lv_at hl 0 rfl) ?_
  refine lv_aload_n hx hb dX11_law_1 rfl (lv_at hl 0 rfl) ?_
  refine fg_X11_99 C hw ic1_0 dX11_law_2 ?_
  refine fp_X11_116 C hw ic1_0 dX11_law_5 (fun H locs hw => ?_)
  obtain ⟨M_1, eM_1⟩ : ∃ z, z = (x_up M 0 7 (M 0 4)) := ⟨_, rfl⟩
  rw [← eM_1] at hw
  have hf := x_lE eM_1 hf
  refine lv_aload_n hx hb dX11_law_8 rfl (lv_at hl 0 rfl) ?_
  refine lv_iconst (v := (0 : Int32)) hx hb dX11_law_9 (by decide) ?_
  refine fp_X11_99 C hw ic1_0 dX11_law_10 (fun H locs hw => ?_)
  obtain ⟨M_2, eM_2⟩ : ∃ z, z = (x_up M_1 0 4 (0 : Int32)) := ⟨_, rfl⟩
  rw [← eM_2] at hw
  have hf := x_lE eM_2 hf
  refine lv_aload_n hx hb dX11_law_13 rfl (lv_at hl 0 rfl) ?_
  refine lv_iconst (v := (0 : Int32)) hx hb dX11_law_14 (by decide) ?_
  refine fp_X11_113 C hw ic1_0 dX11_law_15 (fun H locs hw => ?_)
  obtain ⟨M_3, eM_3⟩ : ∃ z, z = (x_up M_2 0 6 (0 : Int32)) := ⟨_, rfl⟩
  rw [← eM_3] at hw
  have hf := x_lE eM_3 hf
  refine lv_aload_n hx hb dX11_law_18 rfl (lv_at hl 0 rfl) ?_
  refine lv_iconst (v := (0 : Int32)) hx hb dX11_law_19 (by decide) ?_
  refine fp_X11_119 C hw ic1_0 dX11_law_20 (fun H locs hw => ?_)
  obtain ⟨M_4, eM_4⟩ : ∃ z, z = (x_up M_3 0 8 (0 : Int32)) := ⟨_, rfl⟩
  rw [← eM_4] at hw
  have hf := x_lE eM_4 hf
  refine lv_aload_n hx hb dX11_law_23 rfl (lv_at hl 0 rfl) ?_
  refine lv_iconst (v := (0 : Int32)) hx hb dX11_law_24 (by decide) ?_
  refine fp_X11_103 C hw (⟨rfl, rfl⟩ : _ ∧ _) ic1_0 dX11_law_25 (fun H locs hw => ?_)
  obtain ⟨M_5, eM_5⟩ : ∃ z, z = (x_up M_4 0 10 (0 : Int32)) := ⟨_, rfl⟩
  rw [← eM_5] at hw
  have hf := x_lE eM_5 hf
  refine lv_aload_n hx hb dX11_law_28 rfl (lv_at hl 0 rfl) ?_
  refine lv_iconst (v := (0 : Int32)) hx hb dX11_law_29 (by decide) ?_
  refine fp_X11_160 C hw ic1_0 dX11_law_30 (fun H locs hw => ?_)
  obtain ⟨M_6, eM_6⟩ : ∃ z, z = (x_up M_5 0 13 (0 : Int32)) := ⟨_, rfl⟩
  rw [← eM_6] at hw
  have hf := x_lE eM_6 hf
  refine lv_aload_n hx hb dX11_law_33 rfl (lv_at hl 0 rfl) ?_
  obtain ⟨tM_7, c_8, hf⟩ := x_vE hf
  refine x_vV C hw hl.1 [] [] (mX11_next l g c_8) lk_X11_154 ic1_0 (by decide) rfl (by decide) rfl (Nat.le_of_ble_eq_true rfl) ⟨Nat.zero_le _, Nat.zero_le _⟩ dX11_law_34 (fun M_7 H locs hN hw => ?_)
  obtain rfl := hN
  refine lv_aload_n hx hb dX11_law_37 rfl (lv_at hl 0 rfl) ?_
  refine lv_iconst (v := (0 : Int32)) hx hb dX11_law_38 (by decide) ?_
  refine lv_aload_n hx hb dX11_law_39 rfl (lv_at hl 0 rfl) ?_
  refine lv_bipush (v := (100 : Int32)) hx hb dX11_law_40 (by decide) ?_
  refine lv_bipush (v := (97 : Int32)) hx hb dX11_law_42 (by decide) ?_
  refine lv_bipush (v := (121 : Int32)) hx hb dX11_law_44 (by decide) ?_
  refine lv_bipush (v := (115 : Int32)) hx hb dX11_law_46 (by decide) ?_
  refine lv_iconst (v := (0 : Int32)) hx hb dX11_law_48 (by decide) ?_
  obtain ⟨tv_11, tM_9, c_10, hf⟩ := x_bE hf
  refine x_vI C hw hl.1 [.int (100 : Int32), .int (97 : Int32), .int (121 : Int32), .int (115 : Int32), .int (0 : Int32)] [.int (0 : Int32), .ref (g.2.2.1 0)] (mX11_isWord l g c_10) lk_X11_181 ic1_0 (by decide) rfl (by decide) rfl (Nat.le_of_ble_eq_true rfl) ⟨Nat.zero_le _, Nat.zero_le _⟩ dX11_law_49 (fun v_11 M_9 H locs hN hw => ?_)
  obtain ⟨rfl, rfl⟩ := hN
  obtain ⟨tM_12, c_13, hf⟩ := x_vE hf
  refine x_vV C hw hl.1 [.int (0 : Int32), .int v_11] [] (mX11_reads l g c_13) lk_X11_185 ic1_0 (by decide) rfl (by decide) rfl (Nat.le_of_ble_eq_true rfl) ⟨Nat.zero_le _, Nat.zero_le _⟩ dX11_law_52 (fun M_12 H locs hN hw => ?_)
  obtain rfl := hN
  refine lv_aload_n hx hb dX11_law_55 rfl (lv_at hl 0 rfl) ?_
  refine lv_iconst (v := (1 : Int32)) hx hb dX11_law_56 (by decide) ?_
  refine lv_aload_n hx hb dX11_law_57 rfl (lv_at hl 0 rfl) ?_
  refine lv_bipush (v := (115 : Int32)) hx hb dX11_law_58 (by decide) ?_
  refine lv_bipush (v := (117 : Int32)) hx hb dX11_law_60 (by decide) ?_
  refine lv_bipush (v := (109 : Int32)) hx hb dX11_law_62 (by decide) ?_
  refine lv_iconst (v := (0 : Int32)) hx hb dX11_law_64 (by decide) ?_
  refine lv_iconst (v := (0 : Int32)) hx hb dX11_law_65 (by decide) ?_
  obtain ⟨tv_16, tM_14, c_15, hf⟩ := x_bE hf
  refine x_vI C hw hl.1 [.int (115 : Int32), .int (117 : Int32), .int (109 : Int32), .int (0 : Int32), .int (0 : Int32)] [.int (1 : Int32), .ref (g.2.2.1 0)] (mX11_isWord l g c_15) lk_X11_181 ic1_0 (by decide) rfl (by decide) rfl (Nat.le_of_ble_eq_true rfl) ⟨Nat.zero_le _, Nat.zero_le _⟩ dX11_law_66 (fun v_16 M_14 H locs hN hw => ?_)
  obtain ⟨rfl, rfl⟩ := hN
  obtain ⟨tM_17, c_18, hf⟩ := x_vE hf
  refine x_vV C hw hl.1 [.int (1 : Int32), .int v_16] [] (mX11_reads l g c_18) lk_X11_185 ic1_0 (by decide) rfl (by decide) rfl (Nat.le_of_ble_eq_true rfl) ⟨Nat.zero_le _, Nat.zero_le _⟩ dX11_law_69 (fun M_17 H locs hN hw => ?_)
  obtain rfl := hN
  refine lv_aload_n hx hb dX11_law_72 rfl (lv_at hl 0 rfl) ?_
  refine lv_iconst (v := (2 : Int32)) hx hb dX11_law_73 (by decide) ?_
  refine lv_aload_n hx hb dX11_law_74 rfl (lv_at hl 0 rfl) ?_
  refine lv_bipush (v := (104 : Int32)) hx hb dX11_law_75 (by decide) ?_
  refine lv_bipush (v := (111 : Int32)) hx hb dX11_law_77 (by decide) ?_
  refine lv_bipush (v := (117 : Int32)) hx hb dX11_law_79 (by decide) ?_
  refine lv_bipush (v := (114 : Int32)) hx hb dX11_law_81 (by decide) ?_
  refine lv_bipush (v := (115 : Int32)) hx hb dX11_law_83 (by decide) ?_
  obtain ⟨tv_21, tM_19, c_20, hf⟩ := x_bE hf
  refine x_vI C hw hl.1 [.int (104 : Int32), .int (111 : Int32), .int (117 : Int32), .int (114 : Int32), .int (115 : Int32)] [.int (2 : Int32), .ref (g.2.2.1 0)] (mX11_isWord l g c_20) lk_X11_181 ic1_0 (by decide) rfl (by decide) rfl (Nat.le_of_ble_eq_true rfl) ⟨Nat.zero_le _, Nat.zero_le _⟩ dX11_law_85 (fun v_21 M_19 H locs hN hw => ?_)
  obtain ⟨rfl, rfl⟩ := hN
  obtain ⟨tM_22, c_23, hf⟩ := x_vE hf
  refine x_vV C hw hl.1 [.int (2 : Int32), .int v_21] [] (mX11_reads l g c_23) lk_X11_185 ic1_0 (by decide) rfl (by decide) rfl (Nat.le_of_ble_eq_true rfl) ⟨Nat.zero_le _, Nat.zero_le _⟩ dX11_law_88 (fun M_22 H locs hN hw => ?_)
  obtain rfl := hN
  refine lv_aload_n hx hb dX11_law_91 rfl (lv_at hl 0 rfl) ?_
  refine fg_X11_103 C hw ic1_0 dX11_law_92 ?_
  obtain ⟨k109_24, ek109_24, hf⟩ := x_jE hf
  have hk109_24 : ∀ (H : Heap) (locs : List Loc) (M_25 : xM)  (ls : Array Slot) , lv_has ls 2 [(0, .ref (g.2.2.1 0))] → x_w g 1 s H locs M_25 → k109_24 M_25 = some (r, M') → W p l e (x_rm 6 131) s m args below meth c H locs 0 0 Q (F0 m 109 ls []) := by
    intro H locs M_25  ls  hl hw hf
    rw [ek109_24] at hf
    refine lv_aload_n hx hb dX11_law_109 rfl (lv_at hl 0 rfl) ?_
    refine fg_X11_103 C hw ic1_0 dX11_law_110 ?_
    refine lv_if_eq (tgt := 124) hx hb dX11_law_113 (by decide) (fun q_26 => ?_) (fun q_26 => ?_)
    · have hf := x_iP hf q_26
      refine lv_iconst (v := (0 : Int32)) hx hb dX11_law_124 (by decide) ?_
      refine lv_istore_n (lv' := [(1, .int (0 : Int32)), (0, .ref (g.2.2.1 0))]) hx hb dX11_law_125 rfl hl (by decide) rfl (fun ls hl => ?_)
      obtain ⟨k155_27, ek155_27, hf⟩ := x_jE hf
      have hk155_27 : ∀ (H : Heap) (locs : List Loc) (M_28 : xM)  (ls : Array Slot) , lv_has ls 2 [(0, .ref (g.2.2.1 0))] → x_w g 1 s H locs M_28 → k155_27 M_28 = some (r, M') → W p l e (x_rm 6 131) s m args below meth c H locs 0 0 Q (F0 m 155 ls []) := by
        intro H locs M_28  ls  hl hw hf
        rw [ek155_27] at hf
        refine lv_aload_n hx hb dX11_law_155 rfl (lv_at hl 0 rfl) ?_
        refine fg_X11_7 (k2 := 1) C hw ic1_0 rfl dX11_law_156 ?_
        refine lv_bipush (v := (21 : Int32)) hx hb dX11_law_159 (by decide) ?_
        refine lv_iconst (v := (1 : Int32)) hx hb dX11_law_161 (by decide) ?_
        refine x_ast (j := 21) C hw ic1_1 (x_inl rfl) rfl dX11_law_162 (fun H locs hw => ?_)
        obtain ⟨M_30, eM_30⟩ : ∃ z, z = (x_up M_28 1 21 (1 : Int32)) := ⟨_, rfl⟩
        rw [← eM_30] at hw
        have hf := x_lE eM_30 hf
        refine lv_aload_n hx hb dX11_law_163 rfl (lv_at hl 0 rfl) ?_
        refine fg_X11_160 C hw ic1_0 dX11_law_164 ?_
        exact ret hf dX11_law_167 hw
      have hL_40 : ∀ (n_33 : Nat) (H : Heap) (locs : List Loc) (M_32 : xM) (x1_31 : Int32) (ls : Array Slot) , lv_has ls 2 [(0, .ref (g.2.2.1 0)), (1, .int x1_31)] → x_w g 1 s H locs M_32 → fX11_law_L126 k155_27 n_33 M_32 x1_31 = some (r, M') → W p l e (x_rm 6 131) s m args below meth c H locs 0 0 Q (F0 m 126 ls []) := by
        intro n_33
        induction n_33 with
        | zero =>
          intro H locs M_32 x1_31 ls  hl hw hf
          rw [fX11_law_L126] at hf
          cases hf
        | succ n_33 ih_34 =>
          intro H locs M_32 x1_31 ls  hl hw hf
          rw [fX11_law_L126] at hf
          refine lv_iload_n hx hb dX11_law_126 rfl (lv_at hl 1 rfl) ?_
          refine lv_sipush (v := (723 : Int32)) hx hb dX11_law_127 (by decide) ?_
          refine lv_icmp_ge (tgt := 155) hx hb dX11_law_130 (by decide) (fun q_35 => ?_) (fun q_35 => ?_)
          · have hf := x_iP hf q_35
            exact hk155_27 _ _ _ _ (lv_sub hl [0] rfl) hw hf
          · have hf := x_iN hf q_35
            refine lv_aload_n hx hb dX11_law_133 rfl (lv_at hl 0 rfl) ?_
            refine fg_X11_7 (k2 := 1) C hw ic1_0 rfl dX11_law_134 ?_
            refine lv_sipush (v := (952 : Int32)) hx hb dX11_law_137 (by decide) ?_
            refine lv_iload_n hx hb dX11_law_140 rfl (lv_at hl 1 rfl) ?_
            refine lv_iadd hx hb dX11_law_141 ?_
            refine lv_aload_n hx hb dX11_law_142 rfl (lv_at hl 0 rfl) ?_
            refine fg_X11_19 (k2 := 4) C hw ic1_0 rfl dX11_law_143 ?_
            refine lv_iload_n hx hb dX11_law_146 rfl (lv_at hl 1 rfl) ?_
            obtain ⟨q_36, hf⟩ := x_gE hf
            refine x_ald C hw ic1_4 q_36 rfl dX11_law_147 ?_
            obtain ⟨q_37, hf⟩ := x_gE hf
            refine x_ast C hw ic1_1 q_37 rfl dX11_law_148 (fun H locs hw => ?_)
            obtain ⟨M_38, eM_38⟩ : ∃ z, z = (x_up M_32 1 ((952 : Int32) + x1_31).toNatClampNeg (M_32 4 x1_31.toNatClampNeg)) := ⟨_, rfl⟩
            rw [← eM_38] at hw
            have hf := x_lE eM_38 hf
            obtain ⟨x1_39, ex1_39⟩ : ∃ z : Int32, z = (x1_31 + (1 : Int32)) := ⟨_, rfl⟩
            have hf := x_lE ex1_39 hf
            refine lv_iinc (v := x1_39) (lv' := [(1, .int x1_39), (0, .ref (g.2.2.1 0))]) hx hb dX11_law_149 hl (k := 1) rfl (by rw [ex1_39]; rfl) (by decide) rfl (fun ls hl => ?_)
            refine lv_goto (tgt := 126) hx hb dX11_law_152 (by decide) ?_
            exact ih_34 _ _ _ _ _ (lv_sub hl [1, 0] rfl) hw hf
      exact hL_40 _ _ _ _ _ _ (lv_sub hl [1, 0] rfl) hw hf
    · have hf := x_iN hf q_26
      refine lv_bipush (v := (-100 : Int32)) hx hb dX11_law_116 (by decide) ?_
      refine lv_aload_n hx hb dX11_law_118 rfl (lv_at hl 0 rfl) ?_
      refine fg_X11_110 C hw ic1_0 dX11_law_119 ?_
      refine lv_isub hx hb dX11_law_122 ?_
      exact ret hf dX11_law_123 hw
  refine lv_if_ne (tgt := 109) hx hb dX11_law_95 (by decide) (fun q_41 => ?_) (fun q_41 => ?_)
  · have hf := x_iN hf q_41
    exact hk109_24 _ _ _ _ (lv_sub hl [0] rfl) hw hf
  · have hf := x_iP hf q_41
    refine lv_aload_n hx hb dX11_law_98 rfl (lv_at hl 0 rfl) ?_
    refine fg_X11_119 C hw ic1_0 dX11_law_99 ?_
    refine lv_if_eq (tgt := 109) hx hb dX11_law_102 (by decide) (fun q_42 => ?_) (fun q_42 => ?_)
    · have hf := x_iP hf q_42
      exact hk109_24 _ _ _ _ (lv_sub hl [0] rfl) hw hf
    · have hf := x_iN hf q_42
      refine lv_aload_n hx hb dX11_law_105 rfl (lv_at hl 0 rfl) ?_
      obtain ⟨tM_43, c_44, hf⟩ := x_vE hf
      refine x_vV C hw hl.1 [] [] (mX11_wrong l g c_44) lk_X11_125 ic1_0 (by decide) rfl (by decide) rfl (Nat.le_of_ble_eq_true rfl) ⟨Nat.zero_le _, Nat.zero_le _⟩ dX11_law_106 (fun M_43 H locs hN hw => ?_)
      obtain rfl := hN
      exact hk109_24 _ _ _ _ (lv_sub hl [0] rfl) hw hf
noncomputable def fX11_both (M : xM) (a1 : Int32) (a2 : Int32) (a3 : Int32) : Option (Int32 × xM) := if a1 = (10 : Int32) then (x_l (fun (M_3 : xM) => some ((1 : Int32), M_3)) fun k84_2 => if a2 = 0 then (if a3 = 0 then (some ((0 : Int32), M)) else (k84_2 M)) else (k84_2 M)) else (if a1 = (20 : Int32) then (x_l (fun (M_8 : xM) => some ((0 : Int32), M_8)) fun k102_7 => if a2 = 0 then (k102_7 M) else (if a3 = 0 then (k102_7 M) else (some ((1 : Int32), M)))) else (if a1 = (30 : Int32) then (if a3 ≤ a2 then (some ((0 : Int32), M)) else (some ((1 : Int32), M))) else (if a1 = (31 : Int32) then (if a2 = a3 then (some ((1 : Int32), M)) else (some ((0 : Int32), M))) else (if a1 = (32 : Int32) then (if a2 ≤ a3 then (some ((0 : Int32), M)) else (some ((1 : Int32), M))) else (if a1 = (40 : Int32) then (some ((a2 + a3), M)) else (if a1 = (41 : Int32) then (some ((a2 - a3), M)) else (if a1 = (50 : Int32) then (some ((a2 * a3), M)) else (if a3 = 0 then (some ((0 : Int32), M)) else (x_d a3 (some ((a2 / a3), M)))))))))))
set_option maxRecDepth 100000 in
set_option maxHeartbeats 4000000 in
theorem mX11_both (l : Launch) (g : xG) {a1 : Int32} {a2 : Int32} {a3 : Int32} {r : Int32} {M' : xM}  {M : xM} (hf : fX11_both M a1 a2 a3 = some (r, M')) : x_cI l g 1 yX11_both cX11_both 3 .int 0 0 [.int a1, .int a2, .int a3] M (fun v N => v = r ∧ N = M') := by
  refine x_stI RX11 (by decide) rfl (Nat.le_of_ble_eq_true rfl) ?_
  intro p e s m args below meth c Q ls C hw ret hl
  obtain ⟨hx, hb, hml, hown, hB, -⟩ := id C
  have hl : lv_has ls 3 [(0, .int a1), (1, .int a2), (2, .int a3)] := hl
  unfold fX11_both at hf
  refine lv_iload_n hx hb dX11_both_0 rfl (lv_at hl 0 rfl) ?_
  by_cases q_1 : a1 = (10 : Int32)
  · have hf := x_iP hf q_1
    refine lv_lookup (off := 75) (tgt := 76) hx hb dX11_both_1 (by decide) (by rw [q_1]; rfl) (by decide) ?_
    refine lv_iload_n hx hb dX11_both_76 rfl (lv_at hl 1 rfl) ?_
    obtain ⟨k84_2, ek84_2, hf⟩ := x_jE hf
    have hk84_2 : ∀ (H : Heap) (locs : List Loc) (M_3 : xM)  (ls : Array Slot) , lv_has ls 3 [] → x_w g 1 s H locs M_3 → k84_2 M_3 = some (r, M') → W p l e (x_rm 0 0) s m args below meth c H locs 0 0 Q (F0 m 84 ls []) := by
      intro H locs M_3  ls  hl hw hf
      rw [ek84_2] at hf
      refine lv_iconst (v := (1 : Int32)) hx hb dX11_both_84 (by decide) ?_
      refine lv_goto (tgt := 89) hx hb dX11_both_85 (by decide) ?_
      exact ret hf dX11_both_89 hw
    refine lv_if_ne (tgt := 84) hx hb dX11_both_77 (by decide) (fun q_4 => ?_) (fun q_4 => ?_)
    · have hf := x_iN hf q_4
      exact hk84_2 _ _ _ _ (lv_sub hl [] rfl) hw hf
    · have hf := x_iP hf q_4
      refine lv_iload_n hx hb dX11_both_80 rfl (lv_at hl 2 rfl) ?_
      refine lv_if_eq (tgt := 88) hx hb dX11_both_81 (by decide) (fun q_5 => ?_) (fun q_5 => ?_)
      · have hf := x_iP hf q_5
        refine lv_iconst (v := (0 : Int32)) hx hb dX11_both_88 (by decide) ?_
        exact ret hf dX11_both_89 hw
      · have hf := x_iN hf q_5
        exact hk84_2 _ _ _ _ (lv_sub hl [] rfl) hw hf
  have hf := x_iN hf q_1
  by_cases q_6 : a1 = (20 : Int32)
  · have hf := x_iP hf q_6
    refine lv_lookup (off := 89) (tgt := 90) hx hb dX11_both_1 (by decide) (by rw [q_6]; rfl) (by decide) ?_
    refine lv_iload_n hx hb dX11_both_90 rfl (lv_at hl 1 rfl) ?_
    obtain ⟨k102_7, ek102_7, hf⟩ := x_jE hf
    have hk102_7 : ∀ (H : Heap) (locs : List Loc) (M_8 : xM)  (ls : Array Slot) , lv_has ls 3 [] → x_w g 1 s H locs M_8 → k102_7 M_8 = some (r, M') → W p l e (x_rm 0 0) s m args below meth c H locs 0 0 Q (F0 m 102 ls []) := by
      intro H locs M_8  ls  hl hw hf
      rw [ek102_7] at hf
      refine lv_iconst (v := (0 : Int32)) hx hb dX11_both_102 (by decide) ?_
      exact ret hf dX11_both_103 hw
    refine lv_if_eq (tgt := 102) hx hb dX11_both_91 (by decide) (fun q_9 => ?_) (fun q_9 => ?_)
    · have hf := x_iP hf q_9
      exact hk102_7 _ _ _ _ (lv_sub hl [] rfl) hw hf
    · have hf := x_iN hf q_9
      refine lv_iload_n hx hb dX11_both_94 rfl (lv_at hl 2 rfl) ?_
      refine lv_if_eq (tgt := 102) hx hb dX11_both_95 (by decide) (fun q_10 => ?_) (fun q_10 => ?_)
      · have hf := x_iP hf q_10
        exact hk102_7 _ _ _ _ (lv_sub hl [] rfl) hw hf
      · have hf := x_iN hf q_10
        refine lv_iconst (v := (1 : Int32)) hx hb dX11_both_98 (by decide) ?_
        refine lv_goto (tgt := 103) hx hb dX11_both_99 (by decide) ?_
        exact ret hf dX11_both_103 hw
  have hf := x_iN hf q_6
  by_cases q_11 : a1 = (30 : Int32)
  · have hf := x_iP hf q_11
    refine lv_lookup (off := 103) (tgt := 104) hx hb dX11_both_1 (by decide) (by rw [q_11]; rfl) (by decide) ?_
    refine lv_iload_n hx hb dX11_both_104 rfl (lv_at hl 1 rfl) ?_
    refine lv_iload_n hx hb dX11_both_105 rfl (lv_at hl 2 rfl) ?_
    refine lv_icmp_ge (tgt := 113) hx hb dX11_both_106 (by decide) (fun q_12 => ?_) (fun q_12 => ?_)
    · have hf := x_iP hf q_12
      refine lv_iconst (v := (0 : Int32)) hx hb dX11_both_113 (by decide) ?_
      exact ret hf dX11_both_114 hw
    · have hf := x_iN hf q_12
      refine lv_iconst (v := (1 : Int32)) hx hb dX11_both_109 (by decide) ?_
      refine lv_goto (tgt := 114) hx hb dX11_both_110 (by decide) ?_
      exact ret hf dX11_both_114 hw
  have hf := x_iN hf q_11
  by_cases q_13 : a1 = (31 : Int32)
  · have hf := x_iP hf q_13
    refine lv_lookup (off := 114) (tgt := 115) hx hb dX11_both_1 (by decide) (by rw [q_13]; rfl) (by decide) ?_
    refine lv_iload_n hx hb dX11_both_115 rfl (lv_at hl 1 rfl) ?_
    refine lv_iload_n hx hb dX11_both_116 rfl (lv_at hl 2 rfl) ?_
    refine lv_icmp_ne (tgt := 124) hx hb dX11_both_117 (by decide) (fun q_14 => ?_) (fun q_14 => ?_)
    · have hf := x_iN hf q_14
      refine lv_iconst (v := (0 : Int32)) hx hb dX11_both_124 (by decide) ?_
      exact ret hf dX11_both_125 hw
    · have hf := x_iP hf q_14
      refine lv_iconst (v := (1 : Int32)) hx hb dX11_both_120 (by decide) ?_
      refine lv_goto (tgt := 125) hx hb dX11_both_121 (by decide) ?_
      exact ret hf dX11_both_125 hw
  have hf := x_iN hf q_13
  by_cases q_15 : a1 = (32 : Int32)
  · have hf := x_iP hf q_15
    refine lv_lookup (off := 125) (tgt := 126) hx hb dX11_both_1 (by decide) (by rw [q_15]; rfl) (by decide) ?_
    refine lv_iload_n hx hb dX11_both_126 rfl (lv_at hl 1 rfl) ?_
    refine lv_iload_n hx hb dX11_both_127 rfl (lv_at hl 2 rfl) ?_
    refine lv_icmp_le (tgt := 135) hx hb dX11_both_128 (by decide) (fun q_16 => ?_) (fun q_16 => ?_)
    · have hf := x_iP hf q_16
      refine lv_iconst (v := (0 : Int32)) hx hb dX11_both_135 (by decide) ?_
      exact ret hf dX11_both_136 hw
    · have hf := x_iN hf q_16
      refine lv_iconst (v := (1 : Int32)) hx hb dX11_both_131 (by decide) ?_
      refine lv_goto (tgt := 136) hx hb dX11_both_132 (by decide) ?_
      exact ret hf dX11_both_136 hw
  have hf := x_iN hf q_15
  by_cases q_17 : a1 = (40 : Int32)
  · have hf := x_iP hf q_17
    refine lv_lookup (off := 136) (tgt := 137) hx hb dX11_both_1 (by decide) (by rw [q_17]; rfl) (by decide) ?_
    refine lv_iload_n hx hb dX11_both_137 rfl (lv_at hl 1 rfl) ?_
    refine lv_iload_n hx hb dX11_both_138 rfl (lv_at hl 2 rfl) ?_
    refine lv_iadd hx hb dX11_both_139 ?_
    exact ret hf dX11_both_140 hw
  have hf := x_iN hf q_17
  by_cases q_18 : a1 = (41 : Int32)
  · have hf := x_iP hf q_18
    refine lv_lookup (off := 140) (tgt := 141) hx hb dX11_both_1 (by decide) (by rw [q_18]; rfl) (by decide) ?_
    refine lv_iload_n hx hb dX11_both_141 rfl (lv_at hl 1 rfl) ?_
    refine lv_iload_n hx hb dX11_both_142 rfl (lv_at hl 2 rfl) ?_
    refine lv_isub hx hb dX11_both_143 ?_
    exact ret hf dX11_both_144 hw
  have hf := x_iN hf q_18
  by_cases q_19 : a1 = (50 : Int32)
  · have hf := x_iP hf q_19
    refine lv_lookup (off := 144) (tgt := 145) hx hb dX11_both_1 (by decide) (by rw [q_19]; rfl) (by decide) ?_
    refine lv_iload_n hx hb dX11_both_145 rfl (lv_at hl 1 rfl) ?_
    refine lv_iload_n hx hb dX11_both_146 rfl (lv_at hl 2 rfl) ?_
    refine lv_imul hx hb dX11_both_147 ?_
    exact ret hf dX11_both_148 hw
  have hf := x_iN hf q_19
  refine lv_lookup (off := 148) (tgt := 149) hx hb dX11_both_1 (by decide) ((lv_osw q_1 rfl).trans ((lv_osw q_6 rfl).trans ((lv_osw q_11 rfl).trans ((lv_osw q_13 rfl).trans ((lv_osw q_15 rfl).trans ((lv_osw q_17 rfl).trans ((lv_osw q_18 rfl).trans ((lv_osw q_19 rfl).trans (rfl))))))))) (by decide) ?_
  refine lv_iload_n hx hb dX11_both_149 rfl (lv_at hl 2 rfl) ?_
  refine lv_if_ne (tgt := 157) hx hb dX11_both_150 (by decide) (fun q_20 => ?_) (fun q_20 => ?_)
  · have hf := x_iN hf q_20
    refine lv_iload_n hx hb dX11_both_157 rfl (lv_at hl 1 rfl) ?_
    refine lv_iload_n hx hb dX11_both_158 rfl (lv_at hl 2 rfl) ?_
    obtain ⟨q_21, hf⟩ := x_dE hf
    refine lv_idiv hx hb dX11_both_159 q_21 ?_
    exact ret hf dX11_both_160 hw
  · have hf := x_iP hf q_20
    refine lv_iconst (v := (0 : Int32)) hx hb dX11_both_153 (by decide) ?_
    refine lv_goto (tgt := 160) hx hb dX11_both_154 (by decide) ?_
    exact ret hf dX11_both_160 hw
noncomputable def fX11_worked_L15 (x3_1 : Int32) (k167_2 : xM → Option (Int32 × xM)) : Nat → xM → Int32 → Int32 → Option (Int32 × xM)
  | 0, _, _, _ => none
  | n_8 + 1, M_7, x2_5, x4_6 => x_g x3_1 1675 (if (M_7 1 x3_1.toNatClampNeg) ≤ x4_6 then (k167_2 M_7) else (x_g ((x3_1 + (1 : Int32)) + ((2 : Int32) * x4_6)) 1675 (x_l (M_7 1 ((x3_1 + (1 : Int32)) + ((2 : Int32) * x4_6)).toNatClampNeg) fun x5_13 => x_g ((x3_1 + (2 : Int32)) + ((2 : Int32) * x4_6)) 1675 (x_l (M_7 1 ((x3_1 + (2 : Int32)) + ((2 : Int32) * x4_6)).toNatClampNeg) fun x6_15 => x_l (fun (M_18 : xM) (x2_16 : Int32) => x_l (x4_6 + (1 : Int32)) fun x4_19 => fX11_worked_L15 x3_1 k167_2 n_8 M_18 x2_16 x4_19) fun k161_17 => x_l (fun (M_21 : xM) => x_l (fun (M_24 : xM) (z_22 : Int32) => x_g x2_5 130 (x_l (x_up M_24 6 x2_5.toNatClampNeg z_22) fun M_26 => x_l (x2_5 + (1 : Int32)) fun x2_27 => k161_17 M_26 x2_27)) fun k91_23 => if x5_13 = (1 : Int32) then (k91_23 M_21 x6_15) else (x_g x6_15 128 (k91_23 M_21 (M_21 7 x6_15.toNatClampNeg)))) fun k68_20 => if x5_13 = (1 : Int32) then (k68_20 M_7) else (if x5_13 = (2 : Int32) then (k68_20 M_7) else (if x5_13 = (3 : Int32) then (x_g (x2_5 - (1 : Int32)) 130 (x_l (fun (M_44 : xM) (z_42 : Int32) => x_g (x2_5 - (1 : Int32)) 130 (x_l (x_up M_44 6 (x2_5 - (1 : Int32)).toNatClampNeg z_42) fun M_46 => k161_17 M_46 x2_5)) fun k127_43 => if (M_7 6 (x2_5 - (1 : Int32)).toNatClampNeg) = 0 then (k127_43 M_7 (1 : Int32)) else (k127_43 M_7 (0 : Int32)))) else (x_l (x2_5 + (-1 : Int32)) fun x2_33 => x_g (x2_33 - (1 : Int32)) 130 (x_g x2_33 130 (x_b (fX11_both M_7 x5_13 (M_7 6 (x2_33 - (1 : Int32)).toNatClampNeg) (M_7 6 x2_33.toNatClampNeg)) fun v_38 M_36 => x_g (x2_33 - (1 : Int32)) 130 (x_l (x_up M_36 6 (x2_33 - (1 : Int32)).toNatClampNeg v_38) fun M_40 => k161_17 M_40 x2_33))))))))))
noncomputable def fX11_worked (M : xM) (a1 : Int32) : Option (Int32 × xM) := x_l ((952 : Int32) + ((241 : Int32) * a1)) fun x3_1 => x_l (fun (M_3 : xM) => some ((M_3 6 0), M_3)) fun k167_2 => fX11_worked_L15 x3_1 k167_2 x_FU M (0 : Int32) (0 : Int32)
set_option maxRecDepth 100000 in
set_option maxHeartbeats 4000000 in
theorem mX11_worked (l : Launch) (g : xG) {a1 : Int32} {r : Int32} {M' : xM}  {M : xM} (hf : fX11_worked M a1 = some (r, M')) : x_cI l g 1 yX11_worked cX11_worked 7 .int 1 22 [.ref (g.2.2.1 0), .int a1] M (fun v N => v = r ∧ N = M') := by
  refine x_stI RX11 (by decide) rfl (Nat.le_of_ble_eq_true rfl) ?_
  intro p e s m args below meth c Q ls C hw ret hl
  obtain ⟨hx, hb, hml, hown, hB, -⟩ := id C
  have hl : lv_has ls 7 [(0, .ref (g.2.2.1 0)), (1, .int a1)] := hl
  unfold fX11_worked at hf
  refine lv_iconst (v := (0 : Int32)) hx hb dX11_worked_0 (by decide) ?_
  refine lv_istore_n (lv' := [(2, .int (0 : Int32)), (0, .ref (g.2.2.1 0)), (1, .int a1)]) hx hb dX11_worked_1 rfl hl (by decide) rfl (fun ls hl => ?_)
  refine lv_sipush (v := (952 : Int32)) hx hb dX11_worked_2 (by decide) ?_
  refine lv_sipush (v := (241 : Int32)) hx hb dX11_worked_5 (by decide) ?_
  refine lv_iload_n hx hb dX11_worked_8 rfl (lv_at hl 2 rfl) ?_
  refine lv_imul hx hb dX11_worked_9 ?_
  refine lv_iadd hx hb dX11_worked_10 ?_
  refine lv_topi (fun x3_1 ex3_1 => ?_)
  have hf := x_lE ex3_1 hf
  refine lv_istore_n (lv' := [(3, .int x3_1), (2, .int (0 : Int32)), (0, .ref (g.2.2.1 0)), (1, .int a1)]) hx hb dX11_worked_11 rfl hl (by decide) rfl (fun ls hl => ?_)
  refine lv_iconst (v := (0 : Int32)) hx hb dX11_worked_12 (by decide) ?_
  refine lv_istore (lv' := [(4, .int (0 : Int32)), (3, .int x3_1), (2, .int (0 : Int32)), (0, .ref (g.2.2.1 0)), (1, .int a1)]) hx hb dX11_worked_13 hl (by decide) rfl (fun ls hl => ?_)
  obtain ⟨k167_2, ek167_2, hf⟩ := x_jE hf
  have hk167_2 : ∀ (H : Heap) (locs : List Loc) (M_3 : xM)  (ls : Array Slot) , lv_has ls 7 [(0, .ref (g.2.2.1 0))] → x_w g 1 s H locs M_3 → k167_2 M_3 = some (r, M') → W p l e (x_rm 1 22) s m args below meth c H locs 0 0 Q (F0 m 167 ls []) := by
    intro H locs M_3  ls  hl hw hf
    rw [ek167_2] at hf
    refine lv_aload_n hx hb dX11_worked_167 rfl (lv_at hl 0 rfl) ?_
    refine fg_X11_25 (k2 := 6) C hw ic1_0 rfl dX11_worked_168 ?_
    refine lv_iconst (v := (0 : Int32)) hx hb dX11_worked_171 (by decide) ?_
    refine x_ald (j := 0) C hw ic1_6 (x_inl rfl) rfl dX11_worked_172 ?_
    exact ret hf dX11_worked_173 hw
  have hL_48 : ∀ (n_8 : Nat) (H : Heap) (locs : List Loc) (M_7 : xM) (x2_5 : Int32) (x4_6 : Int32) (ls : Array Slot) , lv_has ls 7 [(3, .int x3_1), (0, .ref (g.2.2.1 0)), (2, .int x2_5), (4, .int x4_6)] → x_w g 1 s H locs M_7 → fX11_worked_L15 x3_1 k167_2 n_8 M_7 x2_5 x4_6 = some (r, M') → W p l e (x_rm 1 22) s m args below meth c H locs 0 0 Q (F0 m 15 ls []) := by
    intro n_8
    induction n_8 with
    | zero =>
      intro H locs M_7 x2_5 x4_6 ls  hl hw hf
      rw [fX11_worked_L15] at hf
      cases hf
    | succ n_8 ih_9 =>
      intro H locs M_7 x2_5 x4_6 ls  hl hw hf
      rw [fX11_worked_L15] at hf
      refine lv_iload hx hb dX11_worked_15 (lv_at hl 3 rfl) ?_
      refine lv_aload_n hx hb dX11_worked_17 rfl (lv_at hl 1 rfl) ?_
      refine fg_X11_7 (k2 := 1) C hw ic1_0 rfl dX11_worked_18 ?_
      refine lv_iload_n hx hb dX11_worked_21 rfl (lv_at hl 0 rfl) ?_
      obtain ⟨q_10, hf⟩ := x_gE hf
      refine x_ald C hw ic1_1 q_10 rfl dX11_worked_22 ?_
      refine lv_icmp_ge (tgt := 167) hx hb dX11_worked_23 (by decide) (fun q_11 => ?_) (fun q_11 => ?_)
      · have hf := x_iP hf q_11
        exact hk167_2 _ _ _ _ (lv_sub hl [1] rfl) hw hf
      · have hf := x_iN hf q_11
        refine lv_aload_n hx hb dX11_worked_26 rfl (lv_at hl 1 rfl) ?_
        refine fg_X11_7 (k2 := 1) C hw ic1_0 rfl dX11_worked_27 ?_
        refine lv_iload_n hx hb dX11_worked_30 rfl (lv_at hl 0 rfl) ?_
        refine lv_iconst (v := (1 : Int32)) hx hb dX11_worked_31 (by decide) ?_
        refine lv_iadd hx hb dX11_worked_32 ?_
        refine lv_iconst (v := (2 : Int32)) hx hb dX11_worked_33 (by decide) ?_
        refine lv_iload hx hb dX11_worked_34 (lv_at hl 3 rfl) ?_
        refine lv_imul hx hb dX11_worked_36 ?_
        refine lv_iadd hx hb dX11_worked_37 ?_
        obtain ⟨q_12, hf⟩ := x_gE hf
        refine x_ald C hw ic1_1 q_12 rfl dX11_worked_38 ?_
        refine lv_topi (fun x5_13 ex5_13 => ?_)
        have hf := x_lE ex5_13 hf
        refine lv_istore (lv' := [(5, .int x5_13), (3, .int x3_1), (0, .ref (g.2.2.1 0)), (2, .int x2_5), (4, .int x4_6)]) hx hb dX11_worked_39 hl (by decide) rfl (fun ls hl => ?_)
        refine lv_aload_n hx hb dX11_worked_41 rfl (lv_at hl 2 rfl) ?_
        refine fg_X11_7 (k2 := 1) C hw ic1_0 rfl dX11_worked_42 ?_
        refine lv_iload_n hx hb dX11_worked_45 rfl (lv_at hl 1 rfl) ?_
        refine lv_iconst (v := (2 : Int32)) hx hb dX11_worked_46 (by decide) ?_
        refine lv_iadd hx hb dX11_worked_47 ?_
        refine lv_iconst (v := (2 : Int32)) hx hb dX11_worked_48 (by decide) ?_
        refine lv_iload hx hb dX11_worked_49 (lv_at hl 4 rfl) ?_
        refine lv_imul hx hb dX11_worked_51 ?_
        refine lv_iadd hx hb dX11_worked_52 ?_
        obtain ⟨q_14, hf⟩ := x_gE hf
        refine x_ald C hw ic1_1 q_14 rfl dX11_worked_53 ?_
        refine lv_topi (fun x6_15 ex6_15 => ?_)
        have hf := x_lE ex6_15 hf
        refine lv_istore (lv' := [(6, .int x6_15), (5, .int x5_13), (3, .int x3_1), (0, .ref (g.2.2.1 0)), (2, .int x2_5), (4, .int x4_6)]) hx hb dX11_worked_54 hl (by decide) rfl (fun ls hl => ?_)
        refine lv_iload hx hb dX11_worked_56 (lv_at hl 1 rfl) ?_
        refine lv_iconst (v := (1 : Int32)) hx hb dX11_worked_58 (by decide) ?_
        obtain ⟨k161_17, ek161_17, hf⟩ := x_jE hf
        have hk161_17 : ∀ (H : Heap) (locs : List Loc) (M_18 : xM) (x2_16 : Int32) (ls : Array Slot) , lv_has ls 7 [(3, .int x3_1), (0, .ref (g.2.2.1 0)), (4, .int x4_6), (2, .int x2_16)] → x_w g 1 s H locs M_18 → k161_17 M_18 x2_16 = some (r, M') → W p l e (x_rm 1 22) s m args below meth c H locs 0 0 Q (F0 m 161 ls []) := by
          intro H locs M_18 x2_16 ls  hl hw hf
          rw [ek161_17] at hf
          obtain ⟨x4_19, ex4_19⟩ : ∃ z : Int32, z = (x4_6 + (1 : Int32)) := ⟨_, rfl⟩
          have hf := x_lE ex4_19 hf
          refine lv_iinc (v := x4_19) (lv' := [(4, .int x4_19), (3, .int x3_1), (0, .ref (g.2.2.1 0)), (2, .int x2_16)]) hx hb dX11_worked_161 hl (k := 2) rfl (by rw [ex4_19]; rfl) (by decide) rfl (fun ls hl => ?_)
          refine lv_goto (tgt := 15) hx hb dX11_worked_164 (by decide) ?_
          exact ih_9 _ _ _ _ _ _ (lv_sub hl [1, 2, 3, 0] rfl) hw hf
        obtain ⟨k68_20, ek68_20, hf⟩ := x_jE hf
        have hk68_20 : ∀ (H : Heap) (locs : List Loc) (M_21 : xM)  (ls : Array Slot) , lv_has ls 7 [(6, .int x6_15), (5, .int x5_13), (3, .int x3_1), (0, .ref (g.2.2.1 0)), (2, .int x2_5), (4, .int x4_6)] → x_w g 1 s H locs M_21 → k68_20 M_21 = some (r, M') → W p l e (x_rm 1 22) s m args below meth c H locs 0 0 Q (F0 m 68 ls []) := by
          intro H locs M_21  ls  hl hw hf
          rw [ek68_20] at hf
          refine lv_aload_n hx hb dX11_worked_68 rfl (lv_at hl 3 rfl) ?_
          refine fg_X11_25 (k2 := 6) C hw ic1_0 rfl dX11_worked_69 ?_
          refine lv_iload_n hx hb dX11_worked_72 rfl (lv_at hl 4 rfl) ?_
          refine lv_iload hx hb dX11_worked_73 (lv_at hl 1 rfl) ?_
          refine lv_iconst (v := (1 : Int32)) hx hb dX11_worked_75 (by decide) ?_
          obtain ⟨k91_23, ek91_23, hf⟩ := x_jE hf
          have hk91_23 : ∀ (H : Heap) (locs : List Loc) (M_24 : xM) (z_22 : Int32) (ls : Array Slot) , lv_has ls 7 [(3, .int x3_1), (0, .ref (g.2.2.1 0)), (2, .int x2_5), (4, .int x4_6)] → x_w g 1 s H locs M_24 → k91_23 M_24 z_22 = some (r, M') → W p l e (x_rm 1 22) s m args below meth c H locs 0 0 Q (F0 m 91 ls [.int z_22, .int x2_5, .ref (g.2.2.1 6)]) := by
            intro H locs M_24 z_22 ls  hl hw hf
            rw [ek91_23] at hf
            obtain ⟨q_25, hf⟩ := x_gE hf
            refine x_ast C hw ic1_6 q_25 rfl dX11_worked_91 (fun H locs hw => ?_)
            obtain ⟨M_26, eM_26⟩ : ∃ z, z = (x_up M_24 6 x2_5.toNatClampNeg z_22) := ⟨_, rfl⟩
            rw [← eM_26] at hw
            have hf := x_lE eM_26 hf
            obtain ⟨x2_27, ex2_27⟩ : ∃ z : Int32, z = (x2_5 + (1 : Int32)) := ⟨_, rfl⟩
            have hf := x_lE ex2_27 hf
            refine lv_iinc (v := x2_27) (lv' := [(2, .int x2_27), (3, .int x3_1), (0, .ref (g.2.2.1 0)), (4, .int x4_6)]) hx hb dX11_worked_92 hl (k := 2) rfl (by rw [ex2_27]; rfl) (by decide) rfl (fun ls hl => ?_)
            refine lv_goto (tgt := 161) hx hb dX11_worked_95 (by decide) ?_
            exact hk161_17 _ _ _ _ _ (lv_sub hl [1, 2, 3, 0] rfl) hw hf
          refine lv_icmp_ne (tgt := 84) hx hb dX11_worked_76 (by decide) (fun q_28 => ?_) (fun q_28 => ?_)
          · have hf := x_iN hf q_28
            refine lv_aload_n hx hb dX11_worked_84 rfl (lv_at hl 3 rfl) ?_
            refine fg_X11_28 (k2 := 7) C hw ic1_0 rfl dX11_worked_85 ?_
            refine lv_iload hx hb dX11_worked_88 (lv_at hl 0 rfl) ?_
            obtain ⟨q_29, hf⟩ := x_gE hf
            refine x_ald C hw ic1_7 q_29 rfl dX11_worked_90 ?_
            exact hk91_23 _ _ _ _ _ (lv_sub hl [2, 3, 4, 5] rfl) hw hf
          · have hf := x_iP hf q_28
            refine lv_iload hx hb dX11_worked_79 (lv_at hl 0 rfl) ?_
            refine lv_goto (tgt := 91) hx hb dX11_worked_81 (by decide) ?_
            exact hk91_23 _ _ _ _ _ (lv_sub hl [2, 3, 4, 5] rfl) hw hf
        refine lv_icmp_eq (tgt := 68) hx hb dX11_worked_59 (by decide) (fun q_30 => ?_) (fun q_30 => ?_)
        · have hf := x_iP hf q_30
          exact hk68_20 _ _ _ _ (lv_sub hl [0, 1, 2, 3, 4, 5] rfl) hw hf
        · have hf := x_iN hf q_30
          refine lv_iload hx hb dX11_worked_62 (lv_at hl 1 rfl) ?_
          refine lv_iconst (v := (2 : Int32)) hx hb dX11_worked_64 (by decide) ?_
          refine lv_icmp_ne (tgt := 98) hx hb dX11_worked_65 (by decide) (fun q_31 => ?_) (fun q_31 => ?_)
          · have hf := x_iN hf q_31
            refine lv_iload hx hb dX11_worked_98 (lv_at hl 1 rfl) ?_
            refine lv_iconst (v := (3 : Int32)) hx hb dX11_worked_100 (by decide) ?_
            refine lv_icmp_ne (tgt := 131) hx hb dX11_worked_101 (by decide) (fun q_32 => ?_) (fun q_32 => ?_)
            · have hf := x_iN hf q_32
              obtain ⟨x2_33, ex2_33⟩ : ∃ z : Int32, z = (x2_5 + (-1 : Int32)) := ⟨_, rfl⟩
              have hf := x_lE ex2_33 hf
              refine lv_iinc (v := x2_33) (lv' := [(2, .int x2_33), (6, .int x6_15), (5, .int x5_13), (3, .int x3_1), (0, .ref (g.2.2.1 0)), (4, .int x4_6)]) hx hb dX11_worked_131 hl (k := 4) rfl (by rw [ex2_33]; rfl) (by decide) rfl (fun ls hl => ?_)
              refine lv_aload_n hx hb dX11_worked_134 rfl (lv_at hl 4 rfl) ?_
              refine fg_X11_25 (k2 := 6) C hw ic1_0 rfl dX11_worked_135 ?_
              refine lv_iload_n hx hb dX11_worked_138 rfl (lv_at hl 0 rfl) ?_
              refine lv_iconst (v := (1 : Int32)) hx hb dX11_worked_139 (by decide) ?_
              refine lv_isub hx hb dX11_worked_140 ?_
              refine lv_iload hx hb dX11_worked_141 (lv_at hl 2 rfl) ?_
              refine lv_aload_n hx hb dX11_worked_143 rfl (lv_at hl 4 rfl) ?_
              refine fg_X11_25 (k2 := 6) C hw ic1_0 rfl dX11_worked_144 ?_
              refine lv_iload_n hx hb dX11_worked_147 rfl (lv_at hl 0 rfl) ?_
              refine lv_iconst (v := (1 : Int32)) hx hb dX11_worked_148 (by decide) ?_
              refine lv_isub hx hb dX11_worked_149 ?_
              obtain ⟨q_34, hf⟩ := x_gE hf
              refine x_ald C hw ic1_6 q_34 rfl dX11_worked_150 ?_
              refine lv_aload_n hx hb dX11_worked_151 rfl (lv_at hl 4 rfl) ?_
              refine fg_X11_25 (k2 := 6) C hw ic1_0 rfl dX11_worked_152 ?_
              refine lv_iload_n hx hb dX11_worked_155 rfl (lv_at hl 0 rfl) ?_
              obtain ⟨q_35, hf⟩ := x_gE hf
              refine x_ald C hw ic1_6 q_35 rfl dX11_worked_156 ?_
              obtain ⟨tv_38, tM_36, c_37, hf⟩ := x_bE hf
              refine x_sI C hw hl.1 [.int x5_13, .int (M_7 6 (x2_33 - (1 : Int32)).toNatClampNeg), .int (M_7 6 x2_33.toNatClampNeg)] [.int (x2_33 - (1 : Int32)), .ref (g.2.2.1 6)] (mX11_both l g c_37) lk_X11_189 (by decide) rfl (Nat.le_of_ble_eq_true rfl) ⟨Nat.zero_le _, Nat.zero_le _⟩ dX11_worked_157 (fun v_38 M_36 H locs hN hw => ?_)
              obtain ⟨rfl, rfl⟩ := hN
              obtain ⟨q_39, hf⟩ := x_gE hf
              refine x_ast C hw ic1_6 q_39 rfl dX11_worked_160 (fun H locs hw => ?_)
              obtain ⟨M_40, eM_40⟩ : ∃ z, z = (x_up M_36 6 (x2_33 - (1 : Int32)).toNatClampNeg v_38) := ⟨_, rfl⟩
              rw [← eM_40] at hw
              have hf := x_lE eM_40 hf
              exact hk161_17 _ _ _ _ _ (lv_sub hl [3, 4, 5, 0] rfl) hw hf
            · have hf := x_iP hf q_32
              refine lv_aload_n hx hb dX11_worked_104 rfl (lv_at hl 3 rfl) ?_
              refine fg_X11_25 (k2 := 6) C hw ic1_0 rfl dX11_worked_105 ?_
              refine lv_iload_n hx hb dX11_worked_108 rfl (lv_at hl 4 rfl) ?_
              refine lv_iconst (v := (1 : Int32)) hx hb dX11_worked_109 (by decide) ?_
              refine lv_isub hx hb dX11_worked_110 ?_
              refine lv_aload_n hx hb dX11_worked_111 rfl (lv_at hl 3 rfl) ?_
              refine fg_X11_25 (k2 := 6) C hw ic1_0 rfl dX11_worked_112 ?_
              refine lv_iload_n hx hb dX11_worked_115 rfl (lv_at hl 4 rfl) ?_
              refine lv_iconst (v := (1 : Int32)) hx hb dX11_worked_116 (by decide) ?_
              refine lv_isub hx hb dX11_worked_117 ?_
              obtain ⟨q_41, hf⟩ := x_gE hf
              refine x_ald C hw ic1_6 q_41 rfl dX11_worked_118 ?_
              obtain ⟨k127_43, ek127_43, hf⟩ := x_jE hf
              have hk127_43 : ∀ (H : Heap) (locs : List Loc) (M_44 : xM) (z_42 : Int32) (ls : Array Slot) , lv_has ls 7 [(3, .int x3_1), (0, .ref (g.2.2.1 0)), (2, .int x2_5), (4, .int x4_6)] → x_w g 1 s H locs M_44 → k127_43 M_44 z_42 = some (r, M') → W p l e (x_rm 1 22) s m args below meth c H locs 0 0 Q (F0 m 127 ls [.int z_42, .int (x2_5 - (1 : Int32)), .ref (g.2.2.1 6)]) := by
                intro H locs M_44 z_42 ls  hl hw hf
                rw [ek127_43] at hf
                obtain ⟨q_45, hf⟩ := x_gE hf
                refine x_ast C hw ic1_6 q_45 rfl dX11_worked_127 (fun H locs hw => ?_)
                obtain ⟨M_46, eM_46⟩ : ∃ z, z = (x_up M_44 6 (x2_5 - (1 : Int32)).toNatClampNeg z_42) := ⟨_, rfl⟩
                rw [← eM_46] at hw
                have hf := x_lE eM_46 hf
                refine lv_goto (tgt := 161) hx hb dX11_worked_128 (by decide) ?_
                exact hk161_17 _ _ _ _ _ (lv_sub hl [0, 1, 3, 2] rfl) hw hf
              refine lv_if_ne (tgt := 126) hx hb dX11_worked_119 (by decide) (fun q_47 => ?_) (fun q_47 => ?_)
              · have hf := x_iN hf q_47
                refine lv_iconst (v := (0 : Int32)) hx hb dX11_worked_126 (by decide) ?_
                exact hk127_43 _ _ _ _ _ (lv_sub hl [2, 3, 4, 5] rfl) hw hf
              · have hf := x_iP hf q_47
                refine lv_iconst (v := (1 : Int32)) hx hb dX11_worked_122 (by decide) ?_
                refine lv_goto (tgt := 127) hx hb dX11_worked_123 (by decide) ?_
                exact hk127_43 _ _ _ _ _ (lv_sub hl [2, 3, 4, 5] rfl) hw hf
          · have hf := x_iP hf q_31
            exact hk68_20 _ _ _ _ (lv_sub hl [0, 1, 2, 3, 4, 5] rfl) hw hf
  exact hL_48 _ _ _ _ _ _ _ (lv_sub hl [1, 3, 2, 0] rfl) hw hf
noncomputable def fX11_worthOf (M : xM) (a1 : Int32) : Option (Int32 × xM) := x_l ((642 : Int32) + ((5 : Int32) * a1)) fun x2_1 => x_g (x2_1 + (3 : Int32)) 1675 (x_l (x_up M 7 103 (M 1 (x2_1 + (3 : Int32)).toNatClampNeg)) fun M_4 => x_b (fX11_past M_4 a1) fun v_7 M_5 => x_l (x_up M_5 7 112 v_7) fun M_9 => x_g x2_1 1675 (x_l (fun (M_13 : xM) (z_11 : Int32) => x_l (x_up M_13 7 97 z_11) fun M_15 => x_g x2_1 1675 (x_l (x_up M_15 7 107 (M_15 1 x2_1.toNatClampNeg)) fun M_18 => x_g (x2_1 + (1 : Int32)) 1675 (x_b (fX11_isYoung M_18 (M_18 1 (x2_1 + (1 : Int32)).toNatClampNeg)) fun v_22 M_20 => x_l (fun (M_25 : xM) (z_23 : Int32) => x_l (x_up M_25 7 121 z_23) fun M_27 => x_b (fX11_worked M_27 (0 : Int32)) fun v_30 M_28 => x_b (fX11_more M_28 v_30 (M_28 1 3)) fun v_34 M_32 => x_b (fX11_less M_32 v_34 (M_32 1 4)) fun v_38 M_36 => some (v_38, M_36)) fun k96_24 => if v_22 = 0 then (k96_24 M_20 (0 : Int32)) else (k96_24 M_20 (1 : Int32))))) fun k56_12 => if (M_9 1 x2_1.toNatClampNeg) < (2 : Int32) then (k56_12 M_9 (0 : Int32)) else (k56_12 M_9 (1 : Int32))))
set_option maxRecDepth 100000 in
set_option maxHeartbeats 4000000 in
theorem mX11_worthOf (l : Launch) (g : xG) {a1 : Int32} {r : Int32} {M' : xM}  {M : xM} (hf : fX11_worthOf M a1 = some (r, M')) : x_cI l g 1 yX11_worthOf cX11_worthOf 3 .int 2 48 [.ref (g.2.2.1 0), .int a1] M (fun v N => v = r ∧ N = M') := by
  refine x_stI RX11 (by decide) rfl (Nat.le_of_ble_eq_true rfl) ?_
  intro p e s m args below meth c Q ls C hw ret hl
  obtain ⟨hx, hb, hml, hown, hB, -⟩ := id C
  have hl : lv_has ls 3 [(0, .ref (g.2.2.1 0)), (1, .int a1)] := hl
  unfold fX11_worthOf at hf
  refine lv_sipush (v := (642 : Int32)) hx hb dX11_worthOf_0 (by decide) ?_
  refine lv_iconst (v := (5 : Int32)) hx hb dX11_worthOf_3 (by decide) ?_
  refine lv_iload_n hx hb dX11_worthOf_4 rfl (lv_at hl 1 rfl) ?_
  refine lv_imul hx hb dX11_worthOf_5 ?_
  refine lv_iadd hx hb dX11_worthOf_6 ?_
  refine lv_topi (fun x2_1 ex2_1 => ?_)
  have hf := x_lE ex2_1 hf
  refine lv_istore_n (lv' := [(2, .int x2_1), (0, .ref (g.2.2.1 0)), (1, .int a1)]) hx hb dX11_worthOf_7 rfl hl (by decide) rfl (fun ls hl => ?_)
  refine lv_aload_n hx hb dX11_worthOf_8 rfl (lv_at hl 1 rfl) ?_
  refine fg_X11_28 (k2 := 7) C hw ic1_0 rfl dX11_worthOf_9 ?_
  refine lv_bipush (v := (103 : Int32)) hx hb dX11_worthOf_12 (by decide) ?_
  refine lv_aload_n hx hb dX11_worthOf_14 rfl (lv_at hl 1 rfl) ?_
  refine fg_X11_7 (k2 := 1) C hw ic1_0 rfl dX11_worthOf_15 ?_
  refine lv_iload_n hx hb dX11_worthOf_18 rfl (lv_at hl 0 rfl) ?_
  refine lv_iconst (v := (3 : Int32)) hx hb dX11_worthOf_19 (by decide) ?_
  refine lv_iadd hx hb dX11_worthOf_20 ?_
  obtain ⟨q_2, hf⟩ := x_gE hf
  refine x_ald C hw ic1_1 q_2 rfl dX11_worthOf_21 ?_
  refine x_ast (j := 103) C hw ic1_7 (x_inl rfl) rfl dX11_worthOf_22 (fun H locs hw => ?_)
  obtain ⟨M_4, eM_4⟩ : ∃ z, z = (x_up M 7 103 (M 1 (x2_1 + (3 : Int32)).toNatClampNeg)) := ⟨_, rfl⟩
  rw [← eM_4] at hw
  have hf := x_lE eM_4 hf
  refine lv_aload_n hx hb dX11_worthOf_23 rfl (lv_at hl 1 rfl) ?_
  refine fg_X11_28 (k2 := 7) C hw ic1_0 rfl dX11_worthOf_24 ?_
  refine lv_bipush (v := (112 : Int32)) hx hb dX11_worthOf_27 (by decide) ?_
  refine lv_aload_n hx hb dX11_worthOf_29 rfl (lv_at hl 1 rfl) ?_
  refine lv_iload_n hx hb dX11_worthOf_30 rfl (lv_at hl 2 rfl) ?_
  obtain ⟨tv_7, tM_5, c_6, hf⟩ := x_bE hf
  refine x_vI C hw hl.1 [.int a1] [.int (112 : Int32), .ref (g.2.2.1 7)] (mX11_past l g c_6) lk_X11_93 ic1_0 (by decide) rfl (by decide) rfl (Nat.le_of_ble_eq_true rfl) ⟨Nat.zero_le _, Nat.zero_le _⟩ dX11_worthOf_31 (fun v_7 M_5 H locs hN hw => ?_)
  obtain ⟨rfl, rfl⟩ := hN
  refine x_ast (j := 112) C hw ic1_7 (x_inl rfl) rfl dX11_worthOf_34 (fun H locs hw => ?_)
  obtain ⟨M_9, eM_9⟩ : ∃ z, z = (x_up M_5 7 112 v_7) := ⟨_, rfl⟩
  rw [← eM_9] at hw
  have hf := x_lE eM_9 hf
  refine lv_aload_n hx hb dX11_worthOf_35 rfl (lv_at hl 1 rfl) ?_
  refine fg_X11_28 (k2 := 7) C hw ic1_0 rfl dX11_worthOf_36 ?_
  refine lv_bipush (v := (97 : Int32)) hx hb dX11_worthOf_39 (by decide) ?_
  refine lv_aload_n hx hb dX11_worthOf_41 rfl (lv_at hl 1 rfl) ?_
  refine fg_X11_7 (k2 := 1) C hw ic1_0 rfl dX11_worthOf_42 ?_
  refine lv_iload_n hx hb dX11_worthOf_45 rfl (lv_at hl 0 rfl) ?_
  obtain ⟨q_10, hf⟩ := x_gE hf
  refine x_ald C hw ic1_1 q_10 rfl dX11_worthOf_46 ?_
  refine lv_iconst (v := (2 : Int32)) hx hb dX11_worthOf_47 (by decide) ?_
  obtain ⟨k56_12, ek56_12, hf⟩ := x_jE hf
  have hk56_12 : ∀ (H : Heap) (locs : List Loc) (M_13 : xM) (z_11 : Int32) (ls : Array Slot) , lv_has ls 3 [(2, .int x2_1), (0, .ref (g.2.2.1 0))] → x_w g 1 s H locs M_13 → k56_12 M_13 z_11 = some (r, M') → W p l e (x_rm 2 48) s m args below meth c H locs 0 0 Q (F0 m 56 ls [.int z_11, .int (97 : Int32), .ref (g.2.2.1 7)]) := by
    intro H locs M_13 z_11 ls  hl hw hf
    rw [ek56_12] at hf
    refine x_ast (j := 97) C hw ic1_7 (x_inl rfl) rfl dX11_worthOf_56 (fun H locs hw => ?_)
    obtain ⟨M_15, eM_15⟩ : ∃ z, z = (x_up M_13 7 97 z_11) := ⟨_, rfl⟩
    rw [← eM_15] at hw
    have hf := x_lE eM_15 hf
    refine lv_aload_n hx hb dX11_worthOf_57 rfl (lv_at hl 1 rfl) ?_
    refine fg_X11_28 (k2 := 7) C hw ic1_0 rfl dX11_worthOf_58 ?_
    refine lv_bipush (v := (107 : Int32)) hx hb dX11_worthOf_61 (by decide) ?_
    refine lv_aload_n hx hb dX11_worthOf_63 rfl (lv_at hl 1 rfl) ?_
    refine fg_X11_7 (k2 := 1) C hw ic1_0 rfl dX11_worthOf_64 ?_
    refine lv_iload_n hx hb dX11_worthOf_67 rfl (lv_at hl 0 rfl) ?_
    obtain ⟨q_16, hf⟩ := x_gE hf
    refine x_ald C hw ic1_1 q_16 rfl dX11_worthOf_68 ?_
    refine x_ast (j := 107) C hw ic1_7 (x_inl rfl) rfl dX11_worthOf_69 (fun H locs hw => ?_)
    obtain ⟨M_18, eM_18⟩ : ∃ z, z = (x_up M_15 7 107 (M_15 1 x2_1.toNatClampNeg)) := ⟨_, rfl⟩
    rw [← eM_18] at hw
    have hf := x_lE eM_18 hf
    refine lv_aload_n hx hb dX11_worthOf_70 rfl (lv_at hl 1 rfl) ?_
    refine fg_X11_28 (k2 := 7) C hw ic1_0 rfl dX11_worthOf_71 ?_
    refine lv_bipush (v := (121 : Int32)) hx hb dX11_worthOf_74 (by decide) ?_
    refine lv_aload_n hx hb dX11_worthOf_76 rfl (lv_at hl 1 rfl) ?_
    refine lv_aload_n hx hb dX11_worthOf_77 rfl (lv_at hl 1 rfl) ?_
    refine fg_X11_7 (k2 := 1) C hw ic1_0 rfl dX11_worthOf_78 ?_
    refine lv_iload_n hx hb dX11_worthOf_81 rfl (lv_at hl 0 rfl) ?_
    refine lv_iconst (v := (1 : Int32)) hx hb dX11_worthOf_82 (by decide) ?_
    refine lv_iadd hx hb dX11_worthOf_83 ?_
    obtain ⟨q_19, hf⟩ := x_gE hf
    refine x_ald C hw ic1_1 q_19 rfl dX11_worthOf_84 ?_
    obtain ⟨tv_22, tM_20, c_21, hf⟩ := x_bE hf
    refine x_vI C hw hl.1 [.int (M_18 1 (x2_1 + (1 : Int32)).toNatClampNeg)] [.int (121 : Int32), .ref (g.2.2.1 7)] (mX11_isYoung l g c_21) lk_X11_66 ic1_0 (by decide) rfl (by decide) rfl (Nat.le_of_ble_eq_true rfl) ⟨Nat.zero_le _, Nat.zero_le _⟩ dX11_worthOf_85 (fun v_22 M_20 H locs hN hw => ?_)
    obtain ⟨rfl, rfl⟩ := hN
    obtain ⟨k96_24, ek96_24, hf⟩ := x_jE hf
    have hk96_24 : ∀ (H : Heap) (locs : List Loc) (M_25 : xM) (z_23 : Int32) (ls : Array Slot) , lv_has ls 3 [(0, .ref (g.2.2.1 0))] → x_w g 1 s H locs M_25 → k96_24 M_25 z_23 = some (r, M') → W p l e (x_rm 2 48) s m args below meth c H locs 0 0 Q (F0 m 96 ls [.int z_23, .int (121 : Int32), .ref (g.2.2.1 7)]) := by
      intro H locs M_25 z_23 ls  hl hw hf
      rw [ek96_24] at hf
      refine x_ast (j := 121) C hw ic1_7 (x_inl rfl) rfl dX11_worthOf_96 (fun H locs hw => ?_)
      obtain ⟨M_27, eM_27⟩ : ∃ z, z = (x_up M_25 7 121 z_23) := ⟨_, rfl⟩
      rw [← eM_27] at hw
      have hf := x_lE eM_27 hf
      refine lv_aload_n hx hb dX11_worthOf_97 rfl (lv_at hl 0 rfl) ?_
      refine lv_iconst (v := (0 : Int32)) hx hb dX11_worthOf_98 (by decide) ?_
      obtain ⟨tv_30, tM_28, c_29, hf⟩ := x_bE hf
      refine x_vI C hw hl.1 [.int (0 : Int32)] [] (mX11_worked l g c_29) lk_X11_192 ic1_0 (by decide) rfl (by decide) rfl (Nat.le_of_ble_eq_true rfl) ⟨Nat.zero_le _, Nat.zero_le _⟩ dX11_worthOf_99 (fun v_30 M_28 H locs hN hw => ?_)
      obtain ⟨rfl, rfl⟩ := hN
      refine lv_aload_n hx hb dX11_worthOf_102 rfl (lv_at hl 0 rfl) ?_
      refine fg_X11_7 (k2 := 1) C hw ic1_0 rfl dX11_worthOf_103 ?_
      refine lv_iconst (v := (3 : Int32)) hx hb dX11_worthOf_106 (by decide) ?_
      refine x_ald (j := 3) C hw ic1_1 (x_inl rfl) rfl dX11_worthOf_107 ?_
      obtain ⟨tv_34, tM_32, c_33, hf⟩ := x_bE hf
      refine x_sI C hw hl.1 [.int v_30, .int (M_28 1 3)] [] (mX11_more l g c_33) lk_X11_75 (by decide) rfl (Nat.le_of_ble_eq_true rfl) ⟨Nat.zero_le _, Nat.zero_le _⟩ dX11_worthOf_108 (fun v_34 M_32 H locs hN hw => ?_)
      obtain ⟨rfl, rfl⟩ := hN
      refine lv_aload_n hx hb dX11_worthOf_111 rfl (lv_at hl 0 rfl) ?_
      refine fg_X11_7 (k2 := 1) C hw ic1_0 rfl dX11_worthOf_112 ?_
      refine lv_iconst (v := (4 : Int32)) hx hb dX11_worthOf_115 (by decide) ?_
      refine x_ald (j := 4) C hw ic1_1 (x_inl rfl) rfl dX11_worthOf_116 ?_
      obtain ⟨tv_38, tM_36, c_37, hf⟩ := x_bE hf
      refine x_sI C hw hl.1 [.int v_34, .int (M_32 1 4)] [] (mX11_less l g c_37) lk_X11_195 (by decide) rfl (Nat.le_of_ble_eq_true rfl) ⟨Nat.zero_le _, Nat.zero_le _⟩ dX11_worthOf_117 (fun v_38 M_36 H locs hN hw => ?_)
      obtain ⟨rfl, rfl⟩ := hN
      exact ret hf dX11_worthOf_120 hw
    refine lv_if_eq (tgt := 95) hx hb dX11_worthOf_88 (by decide) (fun q_39 => ?_) (fun q_39 => ?_)
    · have hf := x_iP hf q_39
      refine lv_iconst (v := (0 : Int32)) hx hb dX11_worthOf_95 (by decide) ?_
      exact hk96_24 _ _ _ _ _ (lv_sub hl [1] rfl) hw hf
    · have hf := x_iN hf q_39
      refine lv_iconst (v := (1 : Int32)) hx hb dX11_worthOf_91 (by decide) ?_
      refine lv_goto (tgt := 96) hx hb dX11_worthOf_92 (by decide) ?_
      exact hk96_24 _ _ _ _ _ (lv_sub hl [1] rfl) hw hf
  refine lv_icmp_lt (tgt := 55) hx hb dX11_worthOf_48 (by decide) (fun q_40 => ?_) (fun q_40 => ?_)
  · have hf := x_iP hf q_40
    refine lv_iconst (v := (0 : Int32)) hx hb dX11_worthOf_55 (by decide) ?_
    exact hk56_12 _ _ _ _ _ (lv_sub hl [0, 1] rfl) hw hf
  · have hf := x_iN hf q_40
    refine lv_iconst (v := (1 : Int32)) hx hb dX11_worthOf_51 (by decide) ?_
    refine lv_goto (tgt := 56) hx hb dX11_worthOf_52 (by decide) ?_
    exact hk56_12 _ _ _ _ _ (lv_sub hl [0, 1] rfl) hw hf
noncomputable def fX11_worth (M : xM) (a1 : Int32) : Option (Int32 × xM) := x_b (fX11_isDeed M a1) fun v_3 M_1 => if v_3 = 0 then (some ((-1000000001 : Int32), M_1)) else (if (M_1 1 21) = 0 then (some ((-1000000002 : Int32), M_1)) else (x_b (fX11_worthOf M_1 a1) fun v_9 M_7 => some (v_9, M_7)))
set_option maxRecDepth 100000 in
set_option maxHeartbeats 4000000 in
theorem mX11_worth (l : Launch) (g : xG) {a1 : Int32} {r : Int32} {M' : xM}  {M : xM} (hf : fX11_worth M a1 = some (r, M')) : x_cI l g 1 yX11_worth cX11_worth 2 .int 3 70 [.ref (g.2.2.1 0), .int a1] M (fun v N => v = r ∧ N = M') := by
  refine x_stI RX11 (by decide) rfl (Nat.le_of_ble_eq_true rfl) ?_
  intro p e s m args below meth c Q ls C hw ret hl
  obtain ⟨hx, hb, hml, hown, hB, -⟩ := id C
  have hl : lv_has ls 2 [(0, .ref (g.2.2.1 0)), (1, .int a1)] := hl
  unfold fX11_worth at hf
  refine lv_aload_n hx hb dX11_worth_0 rfl (lv_at hl 0 rfl) ?_
  refine lv_iload_n hx hb dX11_worth_1 rfl (lv_at hl 1 rfl) ?_
  obtain ⟨tv_3, tM_1, c_2, hf⟩ := x_bE hf
  refine x_vI C hw hl.1 [.int a1] [] (mX11_isDeed l g c_2) lk_X11_90 ic1_0 (by decide) rfl (by decide) rfl (Nat.le_of_ble_eq_true rfl) ⟨Nat.zero_le _, Nat.zero_le _⟩ dX11_worth_2 (fun v_3 M_1 H locs hN hw => ?_)
  obtain ⟨rfl, rfl⟩ := hN
  refine lv_if_ne (tgt := 11) hx hb dX11_worth_5 (by decide) (fun q_4 => ?_) (fun q_4 => ?_)
  · have hf := x_iN hf q_4
    refine lv_aload_n hx hb dX11_worth_11 rfl (lv_at hl 0 rfl) ?_
    refine fg_X11_7 (k2 := 1) C hw ic1_0 rfl dX11_worth_12 ?_
    refine lv_bipush (v := (21 : Int32)) hx hb dX11_worth_15 (by decide) ?_
    refine x_ald (j := 21) C hw ic1_1 (x_inl rfl) rfl dX11_worth_17 ?_
    refine lv_if_ne (tgt := 26) hx hb dX11_worth_18 (by decide) (fun q_6 => ?_) (fun q_6 => ?_)
    · have hf := x_iN hf q_6
      refine lv_aload_n hx hb dX11_worth_26 rfl (lv_at hl 0 rfl) ?_
      refine lv_iload_n hx hb dX11_worth_27 rfl (lv_at hl 1 rfl) ?_
      obtain ⟨tv_9, tM_7, c_8, hf⟩ := x_bE hf
      refine x_vI C hw hl.1 [.int a1] [] (mX11_worthOf l g c_8) lk_X11_198 ic1_0 (by decide) rfl (by decide) rfl (Nat.le_of_ble_eq_true rfl) ⟨Nat.zero_le _, Nat.zero_le _⟩ dX11_worth_28 (fun v_9 M_7 H locs hN hw => ?_)
      obtain ⟨rfl, rfl⟩ := hN
      exact ret hf dX11_worth_31 hw
    · have hf := x_iP hf q_6
      refine lv_ldc hx hb hown (hB _ mk_X11_69) dX11_worth_21 ?_
      refine lv_goto (tgt := 31) hx hb dX11_worth_23 (by decide) ?_
      exact ret hf dX11_worth_31 hw
  · have hf := x_iP hf q_4
    refine lv_ldc hx hb hown (hB _ mk_X11_60) dX11_worth_8 ?_
    exact ret hf dX11_worth_10 hw
