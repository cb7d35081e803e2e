def fX11_isName (M : xM) (k0 : Nat) (a1 : Int32) : Option (Int32 × xM) := if a1 = (121 : Int32) then (x_z (1 : Int32) (some ((1 : Int32), M))) else (if (M k0 11) = 0 then (x_l (fun (M_13 : xM) => x_z (1 : Int32) (some ((1 : Int32), M_13))) fun k39_12 => if a1 = (103 : Int32) then (k39_12 M) else (if a1 = (112 : Int32) then (k39_12 M) else (if a1 = (97 : Int32) then (k39_12 M) else (if a1 = (107 : Int32) then (k39_12 M) else (x_z (0 : Int32) (some ((0 : Int32), M))))))) else (if (M k0 11) = (1 : Int32) then (x_l (fun (M_6 : xM) => x_z (1 : Int32) (some ((1 : Int32), M_6))) fun k83_5 => if a1 = (105 : Int32) then (k83_5 M) else (if a1 = (110 : Int32) then (k83_5 M) else (if a1 = (119 : Int32) then (k83_5 M) else (if a1 = (100 : Int32) then (k83_5 M) else (if a1 = (115 : Int32) then (k83_5 M) else (x_z (0 : Int32) (some ((0 : Int32), M)))))))) else (if a1 = (117 : Int32) then (x_z (1 : Int32) (some ((1 : Int32), M))) else (x_z (0 : Int32) (some ((0 : Int32), M))))))
set_option maxRecDepth 100000 in
set_option maxHeartbeats 4000000 in
theorem mX11_isName (l : Launch) (g : xG) {k0 : Nat} {a1 : Int32} {r : Int32} {M' : xM} (h0 : x_is 1 k0 11) {M : xM} (hf : fX11_isName M k0 a1 = some (r, M')) : x_cI l g 1 yX11_isName cX11_isName 2 .boolean 0 0 [.ref (g.2.2.1 k0), .int a1] M (fun v N => v = r ∧ N = M') := by
  refine x_stZ RX11 (by decide) rfl (Nat.le_of_ble_eq_true rfl) ?_
  intro p e s m args below meth c Q ls C hw ret hl
  obtain ⟨hx, hb, hml, hown, hB, -⟩ := id C
  have hl : lv_has ls 2 [(0, .ref (g.2.2.1 k0)), (1, .int a1)] := hl
  unfold fX11_isName at hf
  refine lv_iload_n hx hb dX11_isName_0 rfl (lv_at hl 1 rfl) ?_
  refine lv_bipush (v := (121 : Int32)) hx hb dX11_isName_1 (by decide) ?_
  refine lv_icmp_ne (tgt := 8) hx hb dX11_isName_3 (by decide) (fun q_1 => ?_) (fun q_1 => ?_)
  · have hf := x_iN hf q_1
    refine lv_aload_n hx hb dX11_isName_8 rfl (lv_at hl 0 rfl) ?_
    refine fg_X11_132 C hw h0 dX11_isName_9 ?_
    refine lv_if_ne (tgt := 45) hx hb dX11_isName_12 (by decide) (fun q_2 => ?_) (fun q_2 => ?_)
    · have hf := x_iN hf q_2
      refine lv_aload_n hx hb dX11_isName_45 rfl (lv_at hl 0 rfl) ?_
      refine fg_X11_132 C hw h0 dX11_isName_46 ?_
      refine lv_iconst (v := (1 : Int32)) hx hb dX11_isName_49 (by decide) ?_
      refine lv_icmp_ne (tgt := 91) hx hb dX11_isName_50 (by decide) (fun q_3 => ?_) (fun q_3 => ?_)
      · have hf := x_iN hf q_3
        refine lv_iload_n hx hb dX11_isName_91 rfl (lv_at hl 1 rfl) ?_
        refine lv_bipush (v := (117 : Int32)) hx hb dX11_isName_92 (by decide) ?_
        refine lv_icmp_ne (tgt := 101) hx hb dX11_isName_94 (by decide) (fun q_4 => ?_) (fun q_4 => ?_)
        · have hf := x_iN hf q_4
          refine lv_iconst (v := (0 : Int32)) hx hb dX11_isName_101 (by decide) ?_
          exact ret hf dX11_isName_102 hw
        · have hf := x_iP hf q_4
          refine lv_iconst (v := (1 : Int32)) hx hb dX11_isName_97 (by decide) ?_
          refine lv_goto (tgt := 102) hx hb dX11_isName_98 (by decide) ?_
          exact ret hf dX11_isName_102 hw
      · have hf := x_iP hf q_3
        refine lv_iload_n hx hb dX11_isName_53 rfl (lv_at hl 1 rfl) ?_
        refine lv_bipush (v := (105 : Int32)) hx hb dX11_isName_54 (by decide) ?_
        obtain ⟨k83_5, ek83_5, hf⟩ := x_jE hf
        have hk83_5 : ∀ (H : Heap) (locs : List Loc) (M_6 : xM)  (ls : Array Slot) , lv_has ls 2 [] → x_w g 1 s H locs M_6 → k83_5 M_6 = some (r, M') → W p l e (x_rm 0 0) s m args below meth c H locs 0 0 Q (F0 m 83 ls []) := by
          intro H locs M_6  ls  hl hw hf
          rw [ek83_5] at hf
          refine lv_iconst (v := (1 : Int32)) hx hb dX11_isName_83 (by decide) ?_
          refine lv_goto (tgt := 102) hx hb dX11_isName_84 (by decide) ?_
          exact ret hf dX11_isName_102 hw
        refine lv_icmp_eq (tgt := 83) hx hb dX11_isName_56 (by decide) (fun q_7 => ?_) (fun q_7 => ?_)
        · have hf := x_iP hf q_7
          exact hk83_5 _ _ _ _ (lv_sub hl [] rfl) hw hf
        · have hf := x_iN hf q_7
          refine lv_iload_n hx hb dX11_isName_59 rfl (lv_at hl 1 rfl) ?_
          refine lv_bipush (v := (110 : Int32)) hx hb dX11_isName_60 (by decide) ?_
          refine lv_icmp_eq (tgt := 83) hx hb dX11_isName_62 (by decide) (fun q_8 => ?_) (fun q_8 => ?_)
          · have hf := x_iP hf q_8
            exact hk83_5 _ _ _ _ (lv_sub hl [] rfl) hw hf
          · have hf := x_iN hf q_8
            refine lv_iload_n hx hb dX11_isName_65 rfl (lv_at hl 1 rfl) ?_
            refine lv_bipush (v := (119 : Int32)) hx hb dX11_isName_66 (by decide) ?_
            refine lv_icmp_eq (tgt := 83) hx hb dX11_isName_68 (by decide) (fun q_9 => ?_) (fun q_9 => ?_)
            · have hf := x_iP hf q_9
              exact hk83_5 _ _ _ _ (lv_sub hl [] rfl) hw hf
            · have hf := x_iN hf q_9
              refine lv_iload_n hx hb dX11_isName_71 rfl (lv_at hl 1 rfl) ?_
              refine lv_bipush (v := (100 : Int32)) hx hb dX11_isName_72 (by decide) ?_
              refine lv_icmp_eq (tgt := 83) hx hb dX11_isName_74 (by decide) (fun q_10 => ?_) (fun q_10 => ?_)
              · have hf := x_iP hf q_10
                exact hk83_5 _ _ _ _ (lv_sub hl [] rfl) hw hf
              · have hf := x_iN hf q_10
                refine lv_iload_n hx hb dX11_isName_77 rfl (lv_at hl 1 rfl) ?_
                refine lv_bipush (v := (115 : Int32)) hx hb dX11_isName_78 (by decide) ?_
                refine lv_icmp_ne (tgt := 87) hx hb dX11_isName_80 (by decide) (fun q_11 => ?_) (fun q_11 => ?_)
                · have hf := x_iN hf q_11
                  refine lv_iconst (v := (0 : Int32)) hx hb dX11_isName_87 (by decide) ?_
                  refine lv_goto (tgt := 102) hx hb dX11_isName_88 (by decide) ?_
                  exact ret hf dX11_isName_102 hw
                · have hf := x_iP hf q_11
                  exact hk83_5 _ _ _ _ (lv_sub hl [] rfl) hw hf
    · have hf := x_iP hf q_2
      refine lv_iload_n hx hb dX11_isName_15 rfl (lv_at hl 1 rfl) ?_
      refine lv_bipush (v := (103 : Int32)) hx hb dX11_isName_16 (by decide) ?_
      obtain ⟨k39_12, ek39_12, hf⟩ := x_jE hf
      have hk39_12 : ∀ (H : Heap) (locs : List Loc) (M_13 : xM)  (ls : Array Slot) , lv_has ls 2 [] → x_w g 1 s H locs M_13 → k39_12 M_13 = some (r, M') → W p l e (x_rm 0 0) s m args below meth c H locs 0 0 Q (F0 m 39 ls []) := by
        intro H locs M_13  ls  hl hw hf
        rw [ek39_12] at hf
        refine lv_iconst (v := (1 : Int32)) hx hb dX11_isName_39 (by decide) ?_
        refine lv_goto (tgt := 44) hx hb dX11_isName_40 (by decide) ?_
        exact ret hf dX11_isName_44 hw
      refine lv_icmp_eq (tgt := 39) hx hb dX11_isName_18 (by decide) (fun q_14 => ?_) (fun q_14 => ?_)
      · have hf := x_iP hf q_14
        exact hk39_12 _ _ _ _ (lv_sub hl [] rfl) hw hf
      · have hf := x_iN hf q_14
        refine lv_iload_n hx hb dX11_isName_21 rfl (lv_at hl 1 rfl) ?_
        refine lv_bipush (v := (112 : Int32)) hx hb dX11_isName_22 (by decide) ?_
        refine lv_icmp_eq (tgt := 39) hx hb dX11_isName_24 (by decide) (fun q_15 => ?_) (fun q_15 => ?_)
        · have hf := x_iP hf q_15
          exact hk39_12 _ _ _ _ (lv_sub hl [] rfl) hw hf
        · have hf := x_iN hf q_15
          refine lv_iload_n hx hb dX11_isName_27 rfl (lv_at hl 1 rfl) ?_
          refine lv_bipush (v := (97 : Int32)) hx hb dX11_isName_28 (by decide) ?_
          refine lv_icmp_eq (tgt := 39) hx hb dX11_isName_30 (by decide) (fun q_16 => ?_) (fun q_16 => ?_)
          · have hf := x_iP hf q_16
            exact hk39_12 _ _ _ _ (lv_sub hl [] rfl) hw hf
          · have hf := x_iN hf q_16
            refine lv_iload_n hx hb dX11_isName_33 rfl (lv_at hl 1 rfl) ?_
            refine lv_bipush (v := (107 : Int32)) hx hb dX11_isName_34 (by decide) ?_
            refine lv_icmp_ne (tgt := 43) hx hb dX11_isName_36 (by decide) (fun q_17 => ?_) (fun q_17 => ?_)
            · have hf := x_iN hf q_17
              refine lv_iconst (v := (0 : Int32)) hx hb dX11_isName_43 (by decide) ?_
              exact ret hf dX11_isName_44 hw
            · have hf := x_iP hf q_17
              exact hk39_12 _ _ _ _ (lv_sub hl [] rfl) hw hf
  · have hf := x_iP hf q_1
    refine lv_iconst (v := (1 : Int32)) hx hb dX11_isName_6 (by decide) ?_
    exact ret hf dX11_isName_7 hw
def fX11_begins_L149 (k0 : Nat) (k178_69 : xM → Int32 → Option (Int32 × xM)) : Nat → xM → Int32 → Int32 → Option (Int32 × xM)
  | 0, _, _, _ => none
  | n_76 + 1, M_75, x1_73, x2_74 => if (M_75 k0 6) ≤ x2_74 then (k178_69 M_75 x1_73) else (x_g x2_74 (xn 1 (xr 1 k0 3)) (x_l ((((10 : Int32) * x1_73) + (M_75 (xr 1 k0 3) x2_74.toNatClampNeg)) - (48 : Int32)) fun x1_81 => x_l (x2_74 + (1 : Int32)) fun x2_82 => fX11_begins_L149 k0 k178_69 n_76 M_75 x1_81 x2_82))
def fX11_begins (M : xM) (k0 : Nat) : Option (Int32 × xM) := x_b (fX11_isSign M k0 (33 : Int32)) fun v_3 M_1 => x_l (fun (M_5 : xM) => x_b (fX11_isSign M_5 k0 (33 : Int32)) fun v_8 M_6 => x_l (fun (M_11 : xM) (z_9 : Int32) => if z_9 = (8 : Int32) then (x_v (fX11_wrong M_11 k0) fun M_33 => x_z (0 : Int32) (some ((0 : Int32), M_33))) else (x_l (fun (M_16 : xM) (z_14 : Int32) => x_g (M_11 k0 16) (xn 1 (xr 1 k0 15)) (x_l (x_up M_16 (xr 1 k0 15) (M_11 k0 16).toNatClampNeg z_14) fun M_18 => x_l (x_up M_18 k0 16 ((M_18 k0 16) + (1 : Int32))) fun M_19 => x_l (fun (M_22 : xM) (z_20 : Int32) => x_l (x_up M_22 k0 18 ((M_19 k0 18) + z_20)) fun M_23 => x_l (fun (M_26 : xM) (z_24 : Int32) => x_l (x_up M_26 k0 17 ((M_23 k0 17) + z_24)) fun M_27 => x_v (fX11_next M_27 k0) fun M_28 => x_z (1 : Int32) (some ((1 : Int32), M_28))) fun k111_25 => if v_8 = 0 then (k111_25 M_23 (1 : Int32)) else (k111_25 M_23 (0 : Int32))) fun k93_21 => if v_8 = 0 then (k93_21 M_19 (0 : Int32)) else (k93_21 M_19 (1 : Int32)))) fun k68_15 => if v_8 = 0 then (k68_15 M_11 (1 : Int32)) else (k68_15 M_11 (3 : Int32)))) fun k40_10 => if v_8 = 0 then (k40_10 M_6 (M_6 k0 17)) else (k40_10 M_6 (M_6 k0 18))) fun k18_4 => if v_3 = 0 then (x_b (fX11_isSign M_1 k0 (40 : Int32)) fun v_39 M_37 => if v_39 = 0 then (x_l (fun (M_42 : xM) => x_l (x_up M_42 k0 13 ((M_42 k0 13) + (1 : Int32))) fun M_43 => x_v (fX11_next M_43 k0) fun M_44 => x_v (fX11_parted M_44 k0) fun M_46 => x_z (0 : Int32) (some ((0 : Int32), M_46))) fun k247_41 => x_l (fun (M_49 : xM) => x_l (fun (M_51 : xM) => x_v (fX11_wrong M_51 k0) fun M_52 => x_z (0 : Int32) (some ((0 : Int32), M_52))) fun k241_50 => if (M_49 k0 8) = (1 : Int32) then (if ((M_49 k0 6) - (M_49 k0 5)) = (1 : Int32) then (x_g (M_49 k0 5) (xn 1 (xr 1 k0 3)) (x_b (fX11_isName M_49 k0 (M_49 (xr 1 k0 3) (M_49 k0 5).toNatClampNeg)) fun v_60 M_58 => if v_60 = 0 then (k241_50 M_58) else (x_g (M_58 k0 5) (xn 1 (xr 1 k0 3)) (x_v (fX11_emit M_58 k0 (2 : Int32) (M_58 (xr 1 k0 3) (M_58 k0 5).toNatClampNeg)) fun M_63 => k247_41 M_63)))) else (k241_50 M_49)) else (k241_50 M_49)) fun k187_48 => if (M_37 k0 8) = (2 : Int32) then (if (5 : Int32) < ((M_37 k0 6) - (M_37 k0 5)) then (k187_48 M_37) else (x_l (M_37 k0 5) fun x2_67 => x_l (fun (M_70 : xM) (x1_68 : Int32) => x_v (fX11_emit M_70 k0 (1 : Int32) x1_68) fun M_71 => k247_41 M_71) fun k178_69 => fX11_begins_L149 k0 k178_69 x_FU M_37 (0 : Int32) x2_67)) else (k187_48 M_37)) else (k18_4 M_37)) else (k18_4 M_1)
set_option maxRecDepth 100000 in
set_option maxHeartbeats 4000000 in
theorem mX11_begins (l : Launch) (g : xG) {k0 : Nat} {r : Int32} {M' : xM} (h0 : x_is 1 k0 11) {M : xM} (hf : fX11_begins M k0 = some (r, M')) : x_cI l g 1 yX11_begins cX11_begins 3 .boolean 3 64 [.ref (g.2.2.1 k0)] M (fun v N => v = r ∧ N = M') := by
  refine x_stZ RX11 (by decide) rfl (Nat.le_of_ble_eq_true rfl) ?_
  intro p e s m args below meth c Q ls C hw ret hl
  obtain ⟨hx, hb, hml, hown, hB, -⟩ := id C
  have hl : lv_has ls 3 [(0, .ref (g.2.2.1 k0))] := hl
  unfold fX11_begins at hf
  refine lv_aload_n hx hb dX11_begins_0 rfl (lv_at hl 0 rfl) ?_
  refine lv_bipush (v := (33 : Int32)) hx hb dX11_begins_1 (by decide) ?_
  obtain ⟨tv_3, tM_1, c_2, hf⟩ := x_bE hf
  refine x_vI C hw hl.1 [.int (33 : Int32)] [] (mX11_isSign l g h0 c_2) lk_X11_148 h0 (by decide) rfl (by decide) rfl (Nat.le_of_ble_eq_true rfl) ⟨Nat.zero_le _, Nat.zero_le _⟩ dX11_begins_3 (fun v_3 M_1 H locs hN hw => ?_)
  obtain ⟨rfl, rfl⟩ := hN
  obtain ⟨k18_4, ek18_4, hf⟩ := x_jE hf
  have hk18_4 : ∀ (H : Heap) (locs : List Loc) (M_5 : xM)  (ls : Array Slot) , lv_has ls 3 [(0, .ref (g.2.2.1 k0))] → x_w g 1 s H locs M_5 → k18_4 M_5 = some (r, M') → W p l e (x_rm 3 64) s m args below meth c H locs 0 0 Q (F0 m 18 ls []) := by
    intro H locs M_5  ls  hl hw hf
    rw [ek18_4] at hf
    refine lv_aload_n hx hb dX11_begins_18 rfl (lv_at hl 0 rfl) ?_
    refine lv_bipush (v := (33 : Int32)) hx hb dX11_begins_19 (by decide) ?_
    obtain ⟨tv_8, tM_6, c_7, hf⟩ := x_bE hf
    refine x_vI C hw hl.1 [.int (33 : Int32)] [] (mX11_isSign l g h0 c_7) lk_X11_148 h0 (by decide) rfl (by decide) rfl (Nat.le_of_ble_eq_true rfl) ⟨Nat.zero_le _, Nat.zero_le _⟩ dX11_begins_21 (fun v_8 M_6 H locs hN hw => ?_)
    obtain ⟨rfl, rfl⟩ := hN
    refine lv_istore_n (lv' := [(1, .int v_8), (0, .ref (g.2.2.1 k0))]) hx hb dX11_begins_24 rfl hl (by decide) rfl (fun ls hl => ?_)
    refine lv_iload_n hx hb dX11_begins_25 rfl (lv_at hl 0 rfl) ?_
    obtain ⟨k40_10, ek40_10, hf⟩ := x_jE hf
    have hk40_10 : ∀ (H : Heap) (locs : List Loc) (M_11 : xM) (z_9 : Int32) (ls : Array Slot) , lv_has ls 3 [(1, .int v_8), (0, .ref (g.2.2.1 k0))] → x_w g 1 s H locs M_11 → k40_10 M_11 z_9 = some (r, M') → W p l e (x_rm 3 64) s m args below meth c H locs 0 0 Q (F0 m 40 ls [.int z_9]) := by
      intro H locs M_11 z_9 ls  hl hw hf
      rw [ek40_10] at hf
      refine lv_bipush (v := (8 : Int32)) hx hb dX11_begins_40 (by decide) ?_
      refine lv_icmp_ne (tgt := 51) hx hb dX11_begins_42 (by decide) (fun q_12 => ?_) (fun q_12 => ?_)
      · have hf := x_iN hf q_12
        refine lv_aload_n hx hb dX11_begins_51 rfl (lv_at hl 1 rfl) ?_
        refine fg_X11_22 C hw h0 dX11_begins_52 ?_
        have h_13 : x_is 1 (xr 1 k0 15) 12 := x_tm h0 (by decide) rfl
        refine lv_aload_n hx hb dX11_begins_55 rfl (lv_at hl 1 rfl) ?_
        refine fg_X11_138 C hw h0 dX11_begins_56 ?_
        refine lv_iload_n hx hb dX11_begins_59 rfl (lv_at hl 0 rfl) ?_
        obtain ⟨k68_15, ek68_15, hf⟩ := x_jE hf
        have hk68_15 : ∀ (H : Heap) (locs : List Loc) (M_16 : xM) (z_14 : Int32) (ls : Array Slot) , lv_has ls 3 [(1, .int v_8), (0, .ref (g.2.2.1 k0))] → x_w g 1 s H locs M_16 → k68_15 M_16 z_14 = some (r, M') → W p l e (x_rm 3 64) s m args below meth c H locs 0 0 Q (F0 m 68 ls [.int z_14, .int (M_11 k0 16), .ref (g.2.2.1 (xr 1 k0 15))]) := by
          intro H locs M_16 z_14 ls  hl hw hf
          rw [ek68_15] at hf
          obtain ⟨q_17, hf⟩ := x_gE hf
          refine x_ast C hw h_13 q_17 dX11_begins_68 (fun H locs hw => ?_)
          obtain ⟨M_18, eM_18⟩ : ∃ z, z = (x_up M_16 (xr 1 k0 15) (M_11 k0 16).toNatClampNeg z_14) := ⟨_, rfl⟩
          rw [← eM_18] at hw
          have hf := x_lE eM_18 hf
          refine lv_aload_n hx hb dX11_begins_69 rfl (lv_at hl 1 rfl) ?_
          refine lv_dup hx hb dX11_begins_70 rfl ?_
          refine fg_X11_138 C hw h0 dX11_begins_71 ?_
          refine lv_iconst (v := (1 : Int32)) hx hb dX11_begins_74 (by decide) ?_
          refine lv_iadd hx hb dX11_begins_75 ?_
          refine fp_X11_138 C hw h0 dX11_begins_76 (fun H locs hw => ?_)
          obtain ⟨M_19, eM_19⟩ : ∃ z, z = (x_up M_18 k0 16 ((M_18 k0 16) + (1 : Int32))) := ⟨_, rfl⟩
          rw [← eM_19] at hw
          have hf := x_lE eM_19 hf
          refine lv_aload_n hx hb dX11_begins_79 rfl (lv_at hl 1 rfl) ?_
          refine lv_dup hx hb dX11_begins_80 rfl ?_
          refine fg_X11_145 C hw h0 dX11_begins_81 ?_
          refine lv_iload_n hx hb dX11_begins_84 rfl (lv_at hl 0 rfl) ?_
          obtain ⟨k93_21, ek93_21, hf⟩ := x_jE hf
          have hk93_21 : ∀ (H : Heap) (locs : List Loc) (M_22 : xM) (z_20 : Int32) (ls : Array Slot) , lv_has ls 3 [(1, .int v_8), (0, .ref (g.2.2.1 k0))] → x_w g 1 s H locs M_22 → k93_21 M_22 z_20 = some (r, M') → W p l e (x_rm 3 64) s m args below meth c H locs 0 0 Q (F0 m 93 ls [.int z_20, .int (M_19 k0 18), .ref (g.2.2.1 k0)]) := by
            intro H locs M_22 z_20 ls  hl hw hf
            rw [ek93_21] at hf
            refine lv_iadd hx hb dX11_begins_93 ?_
            refine fp_X11_145 C hw h0 dX11_begins_94 (fun H locs hw => ?_)
            obtain ⟨M_23, eM_23⟩ : ∃ z, z = (x_up M_22 k0 18 ((M_19 k0 18) + z_20)) := ⟨_, rfl⟩
            rw [← eM_23] at hw
            have hf := x_lE eM_23 hf
            refine lv_aload_n hx hb dX11_begins_97 rfl (lv_at hl 1 rfl) ?_
            refine lv_dup hx hb dX11_begins_98 rfl ?_
            refine fg_X11_151 C hw h0 dX11_begins_99 ?_
            refine lv_iload_n hx hb dX11_begins_102 rfl (lv_at hl 0 rfl) ?_
            obtain ⟨k111_25, ek111_25, hf⟩ := x_jE hf
            have hk111_25 : ∀ (H : Heap) (locs : List Loc) (M_26 : xM) (z_24 : Int32) (ls : Array Slot) , lv_has ls 3 [(0, .ref (g.2.2.1 k0))] → x_w g 1 s H locs M_26 → k111_25 M_26 z_24 = some (r, M') → W p l e (x_rm 3 64) s m args below meth c H locs 0 0 Q (F0 m 111 ls [.int z_24, .int (M_23 k0 17), .ref (g.2.2.1 k0)]) := by
              intro H locs M_26 z_24 ls  hl hw hf
              rw [ek111_25] at hf
              refine lv_iadd hx hb dX11_begins_111 ?_
              refine fp_X11_151 C hw h0 dX11_begins_112 (fun H locs hw => ?_)
              obtain ⟨M_27, eM_27⟩ : ∃ z, z = (x_up M_26 k0 17 ((M_23 k0 17) + z_24)) := ⟨_, rfl⟩
              rw [← eM_27] at hw
              have hf := x_lE eM_27 hf
              refine lv_aload_n hx hb dX11_begins_115 rfl (lv_at hl 0 rfl) ?_
              obtain ⟨tM_28, c_29, hf⟩ := x_vE hf
              refine x_vV C hw hl.1 [] [] (mX11_next l g h0 c_29) lk_X11_154 h0 (by decide) rfl (by decide) rfl (Nat.le_of_ble_eq_true rfl) ⟨Nat.zero_le _, Nat.zero_le _⟩ dX11_begins_116 (fun M_28 H locs hN hw => ?_)
              obtain rfl := hN
              refine lv_iconst (v := (1 : Int32)) hx hb dX11_begins_119 (by decide) ?_
              exact ret hf dX11_begins_120 hw
            refine lv_if_eq (tgt := 110) hx hb dX11_begins_103 (by decide) (fun q_30 => ?_) (fun q_30 => ?_)
            · have hf := x_iP hf q_30
              refine lv_iconst (v := (1 : Int32)) hx hb dX11_begins_110 (by decide) ?_
              exact hk111_25 _ _ _ _ _ (lv_sub hl [1] rfl) hw hf
            · have hf := x_iN hf q_30
              refine lv_iconst (v := (0 : Int32)) hx hb dX11_begins_106 (by decide) ?_
              refine lv_goto (tgt := 111) hx hb dX11_begins_107 (by decide) ?_
              exact hk111_25 _ _ _ _ _ (lv_sub hl [1] rfl) hw hf
          refine lv_if_eq (tgt := 92) hx hb dX11_begins_85 (by decide) (fun q_31 => ?_) (fun q_31 => ?_)
          · have hf := x_iP hf q_31
            refine lv_iconst (v := (0 : Int32)) hx hb dX11_begins_92 (by decide) ?_
            exact hk93_21 _ _ _ _ _ (lv_sub hl [0, 1] rfl) hw hf
          · have hf := x_iN hf q_31
            refine lv_iconst (v := (1 : Int32)) hx hb dX11_begins_88 (by decide) ?_
            refine lv_goto (tgt := 93) hx hb dX11_begins_89 (by decide) ?_
            exact hk93_21 _ _ _ _ _ (lv_sub hl [0, 1] rfl) hw hf
        refine lv_if_eq (tgt := 67) hx hb dX11_begins_60 (by decide) (fun q_32 => ?_) (fun q_32 => ?_)
        · have hf := x_iP hf q_32
          refine lv_iconst (v := (1 : Int32)) hx hb dX11_begins_67 (by decide) ?_
          exact hk68_15 _ _ _ _ _ (lv_sub hl [0, 1] rfl) hw hf
        · have hf := x_iN hf q_32
          refine lv_iconst (v := (3 : Int32)) hx hb dX11_begins_63 (by decide) ?_
          refine lv_goto (tgt := 68) hx hb dX11_begins_64 (by decide) ?_
          exact hk68_15 _ _ _ _ _ (lv_sub hl [0, 1] rfl) hw hf
      · have hf := x_iP hf q_12
        refine lv_aload_n hx hb dX11_begins_45 rfl (lv_at hl 1 rfl) ?_
        obtain ⟨tM_33, c_34, hf⟩ := x_vE hf
        refine x_vV C hw hl.1 [] [] (mX11_wrong l g h0 c_34) lk_X11_125 h0 (by decide) rfl (by decide) rfl (Nat.le_of_ble_eq_true rfl) ⟨Nat.zero_le _, Nat.zero_le _⟩ dX11_begins_46 (fun M_33 H locs hN hw => ?_)
        obtain rfl := hN
        refine lv_iconst (v := (0 : Int32)) hx hb dX11_begins_49 (by decide) ?_
        exact ret hf dX11_begins_50 hw
    refine lv_if_eq (tgt := 36) hx hb dX11_begins_26 (by decide) (fun q_35 => ?_) (fun q_35 => ?_)
    · have hf := x_iP hf q_35
      refine lv_aload_n hx hb dX11_begins_36 rfl (lv_at hl 1 rfl) ?_
      refine fg_X11_151 C hw h0 dX11_begins_37 ?_
      exact hk40_10 _ _ _ _ _ (lv_sub hl [0, 1] rfl) hw hf
    · have hf := x_iN hf q_35
      refine lv_aload_n hx hb dX11_begins_29 rfl (lv_at hl 1 rfl) ?_
      refine fg_X11_145 C hw h0 dX11_begins_30 ?_
      refine lv_goto (tgt := 40) hx hb dX11_begins_33 (by decide) ?_
      exact hk40_10 _ _ _ _ _ (lv_sub hl [0, 1] rfl) hw hf
  refine lv_if_ne (tgt := 18) hx hb dX11_begins_6 (by decide) (fun q_36 => ?_) (fun q_36 => ?_)
  · have hf := x_iN hf q_36
    exact hk18_4 _ _ _ _ (lv_sub hl [0] rfl) hw hf
  · have hf := x_iP hf q_36
    refine lv_aload_n hx hb dX11_begins_9 rfl (lv_at hl 0 rfl) ?_
    refine lv_bipush (v := (40 : Int32)) hx hb dX11_begins_10 (by decide) ?_
    obtain ⟨tv_39, tM_37, c_38, hf⟩ := x_bE hf
    refine x_vI C hw hl.1 [.int (40 : Int32)] [] (mX11_isSign l g h0 c_38) lk_X11_148 h0 (by decide) rfl (by decide) rfl (Nat.le_of_ble_eq_true rfl) ⟨Nat.zero_le _, Nat.zero_le _⟩ dX11_begins_12 (fun v_39 M_37 H locs hN hw => ?_)
    obtain ⟨rfl, rfl⟩ := hN
    refine lv_if_eq (tgt := 121) hx hb dX11_begins_15 (by decide) (fun q_40 => ?_) (fun q_40 => ?_)
    · have hf := x_iP hf q_40
      refine lv_aload_n hx hb dX11_begins_121 rfl (lv_at hl 0 rfl) ?_
      refine fg_X11_119 C hw h0 dX11_begins_122 ?_
      refine lv_iconst (v := (2 : Int32)) hx hb dX11_begins_125 (by decide) ?_
      obtain ⟨k247_41, ek247_41, hf⟩ := x_jE hf
      have hk247_41 : ∀ (H : Heap) (locs : List Loc) (M_42 : xM)  (ls : Array Slot) , lv_has ls 3 [(0, .ref (g.2.2.1 k0))] → x_w g 1 s H locs M_42 → k247_41 M_42 = some (r, M') → W p l e (x_rm 3 64) s m args below meth c H locs 0 0 Q (F0 m 247 ls []) := by
        intro H locs M_42  ls  hl hw hf
        rw [ek247_41] at hf
        refine lv_aload_n hx hb dX11_begins_247 rfl (lv_at hl 0 rfl) ?_
        refine lv_dup hx hb dX11_begins_248 rfl ?_
        refine fg_X11_160 C hw h0 dX11_begins_249 ?_
        refine lv_iconst (v := (1 : Int32)) hx hb dX11_begins_252 (by decide) ?_
        refine lv_iadd hx hb dX11_begins_253 ?_
        refine fp_X11_160 C hw h0 dX11_begins_254 (fun H locs hw => ?_)
        obtain ⟨M_43, eM_43⟩ : ∃ z, z = (x_up M_42 k0 13 ((M_42 k0 13) + (1 : Int32))) := ⟨_, rfl⟩
        rw [← eM_43] at hw
        have hf := x_lE eM_43 hf
        refine lv_aload_n hx hb dX11_begins_257 rfl (lv_at hl 0 rfl) ?_
        obtain ⟨tM_44, c_45, hf⟩ := x_vE hf
        refine x_vV C hw hl.1 [] [] (mX11_next l g h0 c_45) lk_X11_154 h0 (by decide) rfl (by decide) rfl (Nat.le_of_ble_eq_true rfl) ⟨Nat.zero_le _, Nat.zero_le _⟩ dX11_begins_258 (fun M_44 H locs hN hw => ?_)
        obtain rfl := hN
        refine lv_aload_n hx hb dX11_begins_261 rfl (lv_at hl 0 rfl) ?_
        obtain ⟨tM_46, c_47, hf⟩ := x_vE hf
        refine x_vV C hw hl.1 [] [] (mX11_parted l g h0 c_47) lk_X11_163 h0 (by decide) rfl (by decide) rfl (Nat.le_of_ble_eq_true rfl) ⟨Nat.zero_le _, Nat.zero_le _⟩ dX11_begins_262 (fun M_46 H locs hN hw => ?_)
        obtain rfl := hN
        refine lv_iconst (v := (0 : Int32)) hx hb dX11_begins_265 (by decide) ?_
        exact ret hf dX11_begins_266 hw
      obtain ⟨k187_48, ek187_48, hf⟩ := x_jE hf
      have hk187_48 : ∀ (H : Heap) (locs : List Loc) (M_49 : xM)  (ls : Array Slot) , lv_has ls 3 [(0, .ref (g.2.2.1 k0))] → x_w g 1 s H locs M_49 → k187_48 M_49 = some (r, M') → W p l e (x_rm 3 64) s m args below meth c H locs 0 0 Q (F0 m 187 ls []) := by
        intro H locs M_49  ls  hl hw hf
        rw [ek187_48] at hf
        refine lv_aload_n hx hb dX11_begins_187 rfl (lv_at hl 0 rfl) ?_
        refine fg_X11_119 C hw h0 dX11_begins_188 ?_
        refine lv_iconst (v := (1 : Int32)) hx hb dX11_begins_191 (by decide) ?_
        obtain ⟨k241_50, ek241_50, hf⟩ := x_jE hf
        have hk241_50 : ∀ (H : Heap) (locs : List Loc) (M_51 : xM)  (ls : Array Slot) , lv_has ls 3 [(0, .ref (g.2.2.1 k0))] → x_w g 1 s H locs M_51 → k241_50 M_51 = some (r, M') → W p l e (x_rm 3 64) s m args below meth c H locs 0 0 Q (F0 m 241 ls []) := by
          intro H locs M_51  ls  hl hw hf
          rw [ek241_50] at hf
          refine lv_aload_n hx hb dX11_begins_241 rfl (lv_at hl 0 rfl) ?_
          obtain ⟨tM_52, c_53, hf⟩ := x_vE hf
          refine x_vV C hw hl.1 [] [] (mX11_wrong l g h0 c_53) lk_X11_125 h0 (by decide) rfl (by decide) rfl (Nat.le_of_ble_eq_true rfl) ⟨Nat.zero_le _, Nat.zero_le _⟩ dX11_begins_242 (fun M_52 H locs hN hw => ?_)
          obtain rfl := hN
          refine lv_iconst (v := (0 : Int32)) hx hb dX11_begins_245 (by decide) ?_
          exact ret hf dX11_begins_246 hw
        refine lv_icmp_ne (tgt := 241) hx hb dX11_begins_192 (by decide) (fun q_54 => ?_) (fun q_54 => ?_)
        · have hf := x_iN hf q_54
          exact hk241_50 _ _ _ _ (lv_sub hl [0] rfl) hw hf
        · have hf := x_iP hf q_54
          refine lv_aload_n hx hb dX11_begins_195 rfl (lv_at hl 0 rfl) ?_
          refine fg_X11_113 C hw h0 dX11_begins_196 ?_
          refine lv_aload_n hx hb dX11_begins_199 rfl (lv_at hl 0 rfl) ?_
          refine fg_X11_107 C hw h0 dX11_begins_200 ?_
          refine lv_isub hx hb dX11_begins_203 ?_
          refine lv_iconst (v := (1 : Int32)) hx hb dX11_begins_204 (by decide) ?_
          refine lv_icmp_ne (tgt := 241) hx hb dX11_begins_205 (by decide) (fun q_55 => ?_) (fun q_55 => ?_)
          · have hf := x_iN hf q_55
            exact hk241_50 _ _ _ _ (lv_sub hl [0] rfl) hw hf
          · have hf := x_iP hf q_55
            refine lv_aload_n hx hb dX11_begins_208 rfl (lv_at hl 0 rfl) ?_
            refine lv_aload_n hx hb dX11_begins_209 rfl (lv_at hl 0 rfl) ?_
            refine fg_X11_16 C hw h0 dX11_begins_210 ?_
            have h_56 : x_is 1 (xr 1 k0 3) 12 := x_tm h0 (by decide) rfl
            refine lv_aload_n hx hb dX11_begins_213 rfl (lv_at hl 0 rfl) ?_
            refine fg_X11_107 C hw h0 dX11_begins_214 ?_
            obtain ⟨q_57, hf⟩ := x_gE hf
            refine x_ald C hw h_56 q_57 dX11_begins_217 ?_
            obtain ⟨tv_60, tM_58, c_59, hf⟩ := x_bE hf
            refine x_vI C hw hl.1 [.int (M_49 (xr 1 k0 3) (M_49 k0 5).toNatClampNeg)] [] (mX11_isName l g h0 c_59) lk_X11_157 h0 (by decide) rfl (by decide) rfl (Nat.le_of_ble_eq_true rfl) ⟨Nat.zero_le _, Nat.zero_le _⟩ dX11_begins_218 (fun v_60 M_58 H locs hN hw => ?_)
            obtain ⟨rfl, rfl⟩ := hN
            refine lv_if_eq (tgt := 241) hx hb dX11_begins_221 (by decide) (fun q_61 => ?_) (fun q_61 => ?_)
            · have hf := x_iP hf q_61
              exact hk241_50 _ _ _ _ (lv_sub hl [0] rfl) hw hf
            · have hf := x_iN hf q_61
              refine lv_aload_n hx hb dX11_begins_224 rfl (lv_at hl 0 rfl) ?_
              refine lv_iconst (v := (2 : Int32)) hx hb dX11_begins_225 (by decide) ?_
              refine lv_aload_n hx hb dX11_begins_226 rfl (lv_at hl 0 rfl) ?_
              refine fg_X11_16 C hw h0 dX11_begins_227 ?_
              refine lv_aload_n hx hb dX11_begins_230 rfl (lv_at hl 0 rfl) ?_
              refine fg_X11_107 C hw h0 dX11_begins_231 ?_
              obtain ⟨q_62, hf⟩ := x_gE hf
              refine x_ald C hw h_56 q_62 dX11_begins_234 ?_
              obtain ⟨tM_63, c_64, hf⟩ := x_vE hf
              refine x_vV C hw hl.1 [.int (2 : Int32), .int (M_58 (xr 1 k0 3) (M_58 k0 5).toNatClampNeg)] [] (mX11_emit l g h0 c_64) lk_X11_141 h0 (by decide) rfl (by decide) rfl (Nat.le_of_ble_eq_true rfl) ⟨Nat.zero_le _, Nat.zero_le _⟩ dX11_begins_235 (fun M_63 H locs hN hw => ?_)
              obtain rfl := hN
              refine lv_goto (tgt := 247) hx hb dX11_begins_238 (by decide) ?_
              exact hk247_41 _ _ _ _ (lv_sub hl [0] rfl) hw hf
      refine lv_icmp_ne (tgt := 187) hx hb dX11_begins_126 (by decide) (fun q_65 => ?_) (fun q_65 => ?_)
      · have hf := x_iN hf q_65
        exact hk187_48 _ _ _ _ (lv_sub hl [0] rfl) hw hf
      · have hf := x_iP hf q_65
        refine lv_aload_n hx hb dX11_begins_129 rfl (lv_at hl 0 rfl) ?_
        refine fg_X11_113 C hw h0 dX11_begins_130 ?_
        refine lv_aload_n hx hb dX11_begins_133 rfl (lv_at hl 0 rfl) ?_
        refine fg_X11_107 C hw h0 dX11_begins_134 ?_
        refine lv_isub hx hb dX11_begins_137 ?_
        refine lv_iconst (v := (5 : Int32)) hx hb dX11_begins_138 (by decide) ?_
        refine lv_icmp_gt (tgt := 187) hx hb dX11_begins_139 (by decide) (fun q_66 => ?_) (fun q_66 => ?_)
        · have hf := x_iP hf q_66
          exact hk187_48 _ _ _ _ (lv_sub hl [0] rfl) hw hf
        · have hf := x_iN hf q_66
          refine lv_iconst (v := (0 : Int32)) hx hb dX11_begins_142 (by decide) ?_
          refine lv_istore_n (lv' := [(1, .int (0 : Int32)), (0, .ref (g.2.2.1 k0))]) hx hb dX11_begins_143 rfl hl (by decide) rfl (fun ls hl => ?_)
          refine lv_aload_n hx hb dX11_begins_144 rfl (lv_at hl 1 rfl) ?_
          refine fg_X11_107 C hw h0 dX11_begins_145 ?_
          refine lv_topi (fun x2_67 ex2_67 => ?_)
          have hf := x_lE ex2_67 hf
          refine lv_istore_n (lv' := [(2, .int x2_67), (1, .int (0 : Int32)), (0, .ref (g.2.2.1 k0))]) hx hb dX11_begins_148 rfl hl (by decide) rfl (fun ls hl => ?_)
          obtain ⟨k178_69, ek178_69, hf⟩ := x_jE hf
          have hk178_69 : ∀ (H : Heap) (locs : List Loc) (M_70 : xM) (x1_68 : Int32) (ls : Array Slot) , lv_has ls 3 [(0, .ref (g.2.2.1 k0)), (1, .int x1_68)] → x_w g 1 s H locs M_70 → k178_69 M_70 x1_68 = some (r, M') → W p l e (x_rm 3 64) s m args below meth c H locs 0 0 Q (F0 m 178 ls []) := by
            intro H locs M_70 x1_68 ls  hl hw hf
            rw [ek178_69] at hf
            refine lv_aload_n hx hb dX11_begins_178 rfl (lv_at hl 0 rfl) ?_
            refine lv_iconst (v := (1 : Int32)) hx hb dX11_begins_179 (by decide) ?_
            refine lv_iload_n hx hb dX11_begins_180 rfl (lv_at hl 1 rfl) ?_
            obtain ⟨tM_71, c_72, hf⟩ := x_vE hf
            refine x_vV C hw hl.1 [.int (1 : Int32), .int x1_68] [] (mX11_emit l g h0 c_72) lk_X11_141 h0 (by decide) rfl (by decide) rfl (Nat.le_of_ble_eq_true rfl) ⟨Nat.zero_le _, Nat.zero_le _⟩ dX11_begins_181 (fun M_71 H locs hN hw => ?_)
            obtain rfl := hN
            refine lv_goto (tgt := 247) hx hb dX11_begins_184 (by decide) ?_
            exact hk247_41 _ _ _ _ (lv_sub hl [0] rfl) hw hf
          have hL_83 : ∀ (n_76 : Nat) (H : Heap) (locs : List Loc) (M_75 : xM) (x1_73 : Int32) (x2_74 : Int32) (ls : Array Slot) , lv_has ls 3 [(0, .ref (g.2.2.1 k0)), (1, .int x1_73), (2, .int x2_74)] → x_w g 1 s H locs M_75 → fX11_begins_L149 k0 k178_69 n_76 M_75 x1_73 x2_74 = some (r, M') → W p l e (x_rm 3 64) s m args below meth c H locs 0 0 Q (F0 m 149 ls []) := by
            intro n_76
            induction n_76 with
            | zero =>
              intro H locs M_75 x1_73 x2_74 ls  hl hw hf
              rw [fX11_begins_L149] at hf
              cases hf
            | succ n_76 ih_77 =>
              intro H locs M_75 x1_73 x2_74 ls  hl hw hf
              rw [fX11_begins_L149] at hf
              refine lv_iload_n hx hb dX11_begins_149 rfl (lv_at hl 2 rfl) ?_
              refine lv_aload_n hx hb dX11_begins_150 rfl (lv_at hl 0 rfl) ?_
              refine fg_X11_113 C hw h0 dX11_begins_151 ?_
              refine lv_icmp_ge (tgt := 178) hx hb dX11_begins_154 (by decide) (fun q_78 => ?_) (fun q_78 => ?_)
              · have hf := x_iP hf q_78
                exact hk178_69 _ _ _ _ _ (lv_sub hl [0, 1] rfl) hw hf
              · have hf := x_iN hf q_78
                refine lv_bipush (v := (10 : Int32)) hx hb dX11_begins_157 (by decide) ?_
                refine lv_iload_n hx hb dX11_begins_159 rfl (lv_at hl 1 rfl) ?_
                refine lv_imul hx hb dX11_begins_160 ?_
                refine lv_aload_n hx hb dX11_begins_161 rfl (lv_at hl 0 rfl) ?_
                refine fg_X11_16 C hw h0 dX11_begins_162 ?_
                have h_79 : x_is 1 (xr 1 k0 3) 12 := x_tm h0 (by decide) rfl
                refine lv_iload_n hx hb dX11_begins_165 rfl (lv_at hl 2 rfl) ?_
                obtain ⟨q_80, hf⟩ := x_gE hf
                refine x_ald C hw h_79 q_80 dX11_begins_166 ?_
                refine lv_iadd hx hb dX11_begins_167 ?_
                refine lv_bipush (v := (48 : Int32)) hx hb dX11_begins_168 (by decide) ?_
                refine lv_isub hx hb dX11_begins_170 ?_
                refine lv_topi (fun x1_81 ex1_81 => ?_)
                have hf := x_lE ex1_81 hf
                refine lv_istore_n (lv' := [(1, .int x1_81), (0, .ref (g.2.2.1 k0)), (2, .int x2_74)]) hx hb dX11_begins_171 rfl hl (by decide) rfl (fun ls hl => ?_)
                obtain ⟨x2_82, ex2_82⟩ : ∃ z : Int32, z = (x2_74 + (1 : Int32)) := ⟨_, rfl⟩
                have hf := x_lE ex2_82 hf
                refine lv_iinc (v := x2_82) (lv' := [(2, .int x2_82), (1, .int x1_81), (0, .ref (g.2.2.1 k0))]) hx hb dX11_begins_172 hl (k := 2) rfl (by rw [ex2_82]; rfl) (by decide) rfl (fun ls hl => ?_)
                refine lv_goto (tgt := 149) hx hb dX11_begins_175 (by decide) ?_
                exact ih_77 _ _ _ _ _ _ (lv_sub hl [2, 1, 0] rfl) hw hf
          exact hL_83 _ _ _ _ _ _ _ (lv_sub hl [2, 1, 0] rfl) hw hf
    · have hf := x_iN hf q_40
      exact hk18_4 _ _ _ _ (lv_sub hl [0] rfl) hw hf
def fX11_signHere (M : xM) (k0 : Nat) : Option (Int32 × xM) := if (M k0 8) = (3 : Int32) then (x_g (M k0 5) (xn 1 (xr 1 k0 3)) (x_l (M (xr 1 k0 3) (M k0 5).toNatClampNeg) fun x_4 => if x_4 = (38 : Int32) then (some ((20 : Int32), M)) else (if x_4 = (42 : Int32) then (some ((50 : Int32), M)) else (if x_4 = (43 : Int32) then (some ((40 : Int32), M)) else (if x_4 = (45 : Int32) then (some ((41 : Int32), M)) else (if x_4 = (47 : Int32) then (some ((51 : Int32), M)) else (if x_4 = (60 : Int32) then (some ((30 : Int32), M)) else (if x_4 = (61 : Int32) then (some ((31 : Int32), M)) else (if x_4 = (62 : Int32) then (some ((32 : Int32), M)) else (if x_4 = (124 : Int32) then (some ((10 : Int32), M)) else (some ((0 : Int32), M)))))))))))) else (some ((0 : Int32), M))
set_option maxRecDepth 100000 in
set_option maxHeartbeats 4000000 in
theorem mX11_signHere (l : Launch) (g : xG) {k0 : Nat} {r : Int32} {M' : xM} (h0 : x_is 1 k0 11) {M : xM} (hf : fX11_signHere M k0 = some (r, M')) : x_cI l g 1 yX11_signHere cX11_signHere 1 .int 0 0 [.ref (g.2.2.1 k0)] M (fun v N => v = r ∧ N = M') := by
  refine x_stI RX11 (by decide) rfl (Nat.le_of_ble_eq_true rfl) ?_
  intro p e s m args below meth c Q ls C hw ret hl
  obtain ⟨hx, hb, hml, hown, hB, -⟩ := id C
  have hl : lv_has ls 1 [(0, .ref (g.2.2.1 k0))] := hl
  unfold fX11_signHere at hf
  refine lv_aload_n hx hb dX11_signHere_0 rfl (lv_at hl 0 rfl) ?_
  refine fg_X11_119 C hw h0 dX11_signHere_1 ?_
  refine lv_iconst (v := (3 : Int32)) hx hb dX11_signHere_4 (by decide) ?_
  refine lv_icmp_eq (tgt := 10) hx hb dX11_signHere_5 (by decide) (fun q_1 => ?_) (fun q_1 => ?_)
  · have hf := x_iP hf q_1
    refine lv_aload_n hx hb dX11_signHere_10 rfl (lv_at hl 0 rfl) ?_
    refine fg_X11_16 C hw h0 dX11_signHere_11 ?_
    have h_2 : x_is 1 (xr 1 k0 3) 12 := x_tm h0 (by decide) rfl
    refine lv_aload_n hx hb dX11_signHere_14 rfl (lv_at hl 0 rfl) ?_
    refine fg_X11_107 C hw h0 dX11_signHere_15 ?_
    obtain ⟨q_3, hf⟩ := x_gE hf
    refine x_ald C hw h_2 q_3 dX11_signHere_18 ?_
    refine lv_topi (fun x_4 ex_4 => ?_)
    have hf := x_lE ex_4 hf
    by_cases q_5 : x_4 = (38 : Int32)
    · have hf := x_iP hf q_5
      refine lv_lookup (off := 84) (tgt := 103) hx hb dX11_signHere_19 (by decide) (by rw [q_5]; rfl) (by decide) ?_
      refine lv_bipush (v := (20 : Int32)) hx hb dX11_signHere_103 (by decide) ?_
      exact ret hf dX11_signHere_105 hw
    have hf := x_iN hf q_5
    by_cases q_6 : x_4 = (42 : Int32)
    · have hf := x_iP hf q_6
      refine lv_lookup (off := 102) (tgt := 121) hx hb dX11_signHere_19 (by decide) (by rw [q_6]; rfl) (by decide) ?_
      refine lv_bipush (v := (50 : Int32)) hx hb dX11_signHere_121 (by decide) ?_
      exact ret hf dX11_signHere_123 hw
    have hf := x_iN hf q_6
    by_cases q_7 : x_4 = (43 : Int32)
    · have hf := x_iP hf q_7
      refine lv_lookup (off := 96) (tgt := 115) hx hb dX11_signHere_19 (by decide) (by rw [q_7]; rfl) (by decide) ?_
      refine lv_bipush (v := (40 : Int32)) hx hb dX11_signHere_115 (by decide) ?_
      exact ret hf dX11_signHere_117 hw
    have hf := x_iN hf q_7
    by_cases q_8 : x_4 = (45 : Int32)
    · have hf := x_iP hf q_8
      refine lv_lookup (off := 99) (tgt := 118) hx hb dX11_signHere_19 (by decide) (by rw [q_8]; rfl) (by decide) ?_
      refine lv_bipush (v := (41 : Int32)) hx hb dX11_signHere_118 (by decide) ?_
      exact ret hf dX11_signHere_120 hw
    have hf := x_iN hf q_8
    by_cases q_9 : x_4 = (47 : Int32)
    · have hf := x_iP hf q_9
      refine lv_lookup (off := 105) (tgt := 124) hx hb dX11_signHere_19 (by decide) (by rw [q_9]; rfl) (by decide) ?_
      refine lv_bipush (v := (51 : Int32)) hx hb dX11_signHere_124 (by decide) ?_
      exact ret hf dX11_signHere_126 hw
    have hf := x_iN hf q_9
    by_cases q_10 : x_4 = (60 : Int32)
    · have hf := x_iP hf q_10
      refine lv_lookup (off := 87) (tgt := 106) hx hb dX11_signHere_19 (by decide) (by rw [q_10]; rfl) (by decide) ?_
      refine lv_bipush (v := (30 : Int32)) hx hb dX11_signHere_106 (by decide) ?_
      exact ret hf dX11_signHere_108 hw
    have hf := x_iN hf q_10
    by_cases q_11 : x_4 = (61 : Int32)
    · have hf := x_iP hf q_11
      refine lv_lookup (off := 90) (tgt := 109) hx hb dX11_signHere_19 (by decide) (by rw [q_11]; rfl) (by decide) ?_
      refine lv_bipush (v := (31 : Int32)) hx hb dX11_signHere_109 (by decide) ?_
      exact ret hf dX11_signHere_111 hw
    have hf := x_iN hf q_11
    by_cases q_12 : x_4 = (62 : Int32)
    · have hf := x_iP hf q_12
      refine lv_lookup (off := 93) (tgt := 112) hx hb dX11_signHere_19 (by decide) (by rw [q_12]; rfl) (by decide) ?_
      refine lv_bipush (v := (32 : Int32)) hx hb dX11_signHere_112 (by decide) ?_
      exact ret hf dX11_signHere_114 hw
    have hf := x_iN hf q_12
    by_cases q_13 : x_4 = (124 : Int32)
    · have hf := x_iP hf q_13
      refine lv_lookup (off := 81) (tgt := 100) hx hb dX11_signHere_19 (by decide) (by rw [q_13]; rfl) (by decide) ?_
      refine lv_bipush (v := (10 : Int32)) hx hb dX11_signHere_100 (by decide) ?_
      exact ret hf dX11_signHere_102 hw
    have hf := x_iN hf q_13
    refine lv_lookup (off := 108) (tgt := 127) hx hb dX11_signHere_19 (by decide) ((lv_osw q_5 rfl).trans ((lv_osw q_6 rfl).trans ((lv_osw q_7 rfl).trans ((lv_osw q_8 rfl).trans ((lv_osw q_9 rfl).trans ((lv_osw q_10 rfl).trans ((lv_osw q_11 rfl).trans ((lv_osw q_12 rfl).trans ((lv_osw q_13 rfl).trans (rfl)))))))))) (by decide) ?_
    refine lv_iconst (v := (0 : Int32)) hx hb dX11_signHere_127 (by decide) ?_
    exact ret hf dX11_signHere_128 hw
  · have hf := x_iN hf q_1
    refine lv_iconst (v := (0 : Int32)) hx hb dX11_signHere_8 (by decide) ?_
    exact ret hf dX11_signHere_9 hw
def fX11_expression_L19 (k0 : Nat) (k208_4 : xM → Option (xM)) : Nat → xM → Int32 → Int32 → Option (xM)
  | 0, _, _, _ => none
  | n_12 + 1, M_11, x1_9, x2_10 => if x2_10 = 0 then (k208_4 M_11) else (if (M_11 k0 10) = 0 then (if x1_9 = 0 then (x_b (fX11_signHere M_11 k0) fun v_19 M_17 => x_l (fun (M_23 : xM) (x1_20 : Int32) (x2_21 : Int32) => fX11_expression_L19 k0 k208_4 n_12 M_23 x1_20 x2_21) fun k205_22 => if v_19 = 0 then (x_b (fX11_isSign M_17 k0 (41 : Int32)) fun v_27 M_25 => x_l (fun (M_29 : xM) => if (M_29 k0 17) ≤ 0 then (k205_22 M_29 x1_9 (0 : Int32)) else (x_v (fX11_wrong M_29 k0) fun M_31 => k205_22 M_31 x1_9 (0 : Int32))) fun k192_28 => if v_27 = 0 then (k192_28 M_25) else (if (M_25 k0 17) ≤ 0 then (k192_28 M_25) else (x_v (fX11_works M_25 k0 (1 : Int32)) fun M_35 => x_l (x_up M_35 k0 16 ((M_35 k0 16) - (1 : Int32))) fun M_37 => x_l (x_up M_37 k0 17 ((M_37 k0 17) - (1 : Int32))) fun M_38 => x_v (fX11_next M_38 k0) fun M_39 => x_v (fX11_parted M_39 k0) fun M_41 => k205_22 M_41 x1_9 x2_10))) else (x_d (10 : Int32) (x_l (fun (M_46 : xM) (z_44 : Int32) => x_v (fX11_works M_46 k0 z_44) fun M_47 => x_d (10 : Int32) (x_l (fun (M_51 : xM) => x_g (M_51 k0 16) (xn 1 (xr 1 k0 15)) (x_l (x_up M_51 (xr 1 k0 15) (M_51 k0 16).toNatClampNeg v_19) fun M_54 => x_l (x_up M_54 k0 16 ((M_54 k0 16) + (1 : Int32))) fun M_55 => x_v (fX11_next M_55 k0) fun M_56 => k205_22 M_56 (1 : Int32) x2_10)) fun k111_50 => if (v_19 / (10 : Int32)) = (3 : Int32) then (if (M_47 k0 16) ≤ 0 then (k111_50 M_47) else (x_g ((M_47 k0 16) - (1 : Int32)) (xn 1 (xr 1 k0 15)) (x_d (10 : Int32) (if ((M_47 (xr 1 k0 15) ((M_47 k0 16) - (1 : Int32)).toNatClampNeg) / (10 : Int32)) = (3 : Int32) then (x_v (fX11_wrong M_47 k0) fun M_64 => k205_22 M_64 x1_9 x2_10) else (k111_50 M_47))))) else (k111_50 M_47))) fun k68_45 => if (v_19 / (10 : Int32)) = (3 : Int32) then (k68_45 M_17 (4 : Int32)) else (x_d (10 : Int32) (k68_45 M_17 (v_19 / (10 : Int32))))))) else (x_b (fX11_begins M_11 k0) fun v_70 M_68 => fX11_expression_L19 k0 k208_4 n_12 M_68 v_70 x2_10)) else (k208_4 M_11))
def fX11_expression (M : xM) (k0 : Nat) : Option (xM) := x_l (x_up M k0 16 (0 : Int32)) fun M_1 => x_l (x_up M_1 k0 17 (0 : Int32)) fun M_2 => x_l (x_up M_2 k0 18 (0 : Int32)) fun M_3 => x_l (fun (M_5 : xM) => if (M_5 k0 10) = 0 then (x_v (fX11_works M_5 k0 (1 : Int32)) fun M_7 => some M_7) else (some M_5)) fun k208_4 => fX11_expression_L19 k0 k208_4 x_FU M_3 (1 : Int32) (1 : Int32)
set_option maxRecDepth 100000 in
set_option maxHeartbeats 4000000 in
theorem mX11_expression (l : Launch) (g : xG) {k0 : Nat} {M' : xM} (h0 : x_is 1 k0 11) {M : xM} (hf : fX11_expression M k0 = some M') : x_cV l g 1 yX11_expression cX11_expression 4 4 86 [.ref (g.2.2.1 k0)] M (fun N => N = M') := by
  refine x_stV RX11 (by decide) rfl (Nat.le_of_ble_eq_true rfl) ?_
  intro p e s m args below meth c Q ls C hw ret hl
  obtain ⟨hx, hb, hml, hown, hB, -⟩ := id C
  have hl : lv_has ls 4 [(0, .ref (g.2.2.1 k0))] := hl
  unfold fX11_expression at hf
  refine lv_aload_n hx hb dX11_expression_0 rfl (lv_at hl 0 rfl) ?_
  refine lv_iconst (v := (0 : Int32)) hx hb dX11_expression_1 (by decide) ?_
  refine fp_X11_138 C hw h0 dX11_expression_2 (fun H locs hw => ?_)
  obtain ⟨M_1, eM_1⟩ : ∃ z, z = (x_up M k0 16 (0 : Int32)) := ⟨_, rfl⟩
  rw [← eM_1] at hw
  have hf := x_lE eM_1 hf
  refine lv_aload_n hx hb dX11_expression_5 rfl (lv_at hl 0 rfl) ?_
  refine lv_iconst (v := (0 : Int32)) hx hb dX11_expression_6 (by decide) ?_
  refine fp_X11_151 C hw h0 dX11_expression_7 (fun H locs hw => ?_)
  obtain ⟨M_2, eM_2⟩ : ∃ z, z = (x_up M_1 k0 17 (0 : Int32)) := ⟨_, rfl⟩
  rw [← eM_2] at hw
  have hf := x_lE eM_2 hf
  refine lv_aload_n hx hb dX11_expression_10 rfl (lv_at hl 0 rfl) ?_
  refine lv_iconst (v := (0 : Int32)) hx hb dX11_expression_11 (by decide) ?_
  refine fp_X11_145 C hw h0 dX11_expression_12 (fun H locs hw => ?_)
  obtain ⟨M_3, eM_3⟩ : ∃ z, z = (x_up M_2 k0 18 (0 : Int32)) := ⟨_, rfl⟩
  rw [← eM_3] at hw
  have hf := x_lE eM_3 hf
  refine lv_iconst (v := (1 : Int32)) hx hb dX11_expression_15 (by decide) ?_
  refine lv_istore_n (lv' := [(1, .int (1 : Int32)), (0, .ref (g.2.2.1 k0))]) hx hb dX11_expression_16 rfl hl (by decide) rfl (fun ls hl => ?_)
  refine lv_iconst (v := (1 : Int32)) hx hb dX11_expression_17 (by decide) ?_
  refine lv_istore_n (lv' := [(2, .int (1 : Int32)), (1, .int (1 : Int32)), (0, .ref (g.2.2.1 k0))]) hx hb dX11_expression_18 rfl hl (by decide) rfl (fun ls hl => ?_)
  obtain ⟨k208_4, ek208_4, hf⟩ := x_jE hf
  have hk208_4 : ∀ (H : Heap) (locs : List Loc) (M_5 : xM)  (ls : Array Slot) , lv_has ls 4 [(0, .ref (g.2.2.1 k0))] → x_w g 1 s H locs M_5 → k208_4 M_5 = some M' → W p l e (x_rm 4 86) s m args below meth c H locs 0 0 Q (F0 m 208 ls []) := by
    intro H locs M_5  ls  hl hw hf
    rw [ek208_4] at hf
    refine lv_aload_n hx hb dX11_expression_208 rfl (lv_at hl 0 rfl) ?_
    refine fg_X11_103 C hw h0 dX11_expression_209 ?_
    refine lv_if_ne (tgt := 220) hx hb dX11_expression_212 (by decide) (fun q_6 => ?_) (fun q_6 => ?_)
    · have hf := x_iN hf q_6
      exact ret hf dX11_expression_220 hw
    · have hf := x_iP hf q_6
      refine lv_aload_n hx hb dX11_expression_215 rfl (lv_at hl 0 rfl) ?_
      refine lv_iconst (v := (1 : Int32)) hx hb dX11_expression_216 (by decide) ?_
      obtain ⟨tM_7, c_8, hf⟩ := x_vE hf
      refine x_vV C hw hl.1 [.int (1 : Int32)] [] (mX11_works l g h0 c_8) lk_X11_174 h0 (by decide) rfl (by decide) rfl (Nat.le_of_ble_eq_true rfl) ⟨Nat.zero_le _, Nat.zero_le _⟩ dX11_expression_217 (fun M_7 H locs hN hw => ?_)
      obtain rfl := hN
      exact ret hf dX11_expression_220 hw
  have hL_71 : ∀ (n_12 : Nat) (H : Heap) (locs : List Loc) (M_11 : xM) (x1_9 : Int32) (x2_10 : Int32) (ls : Array Slot) , lv_has ls 4 [(0, .ref (g.2.2.1 k0)), (1, .int x1_9), (2, .int x2_10)] → x_w g 1 s H locs M_11 → fX11_expression_L19 k0 k208_4 n_12 M_11 x1_9 x2_10 = some M' → W p l e (x_rm 4 86) s m args below meth c H locs 0 0 Q (F0 m 19 ls []) := by
    intro n_12
    induction n_12 with
    | zero =>
      intro H locs M_11 x1_9 x2_10 ls  hl hw hf
      rw [fX11_expression_L19] at hf
      cases hf
    | succ n_12 ih_13 =>
      intro H locs M_11 x1_9 x2_10 ls  hl hw hf
      rw [fX11_expression_L19] at hf
      refine lv_iload_n hx hb dX11_expression_19 rfl (lv_at hl 2 rfl) ?_
      refine lv_if_eq (tgt := 208) hx hb dX11_expression_20 (by decide) (fun q_14 => ?_) (fun q_14 => ?_)
      · have hf := x_iP hf q_14
        exact hk208_4 _ _ _ _ (lv_sub hl [0] rfl) hw hf
      · have hf := x_iN hf q_14
        refine lv_aload_n hx hb dX11_expression_23 rfl (lv_at hl 0 rfl) ?_
        refine fg_X11_103 C hw h0 dX11_expression_24 ?_
        refine lv_if_ne (tgt := 208) hx hb dX11_expression_27 (by decide) (fun q_15 => ?_) (fun q_15 => ?_)
        · have hf := x_iN hf q_15
          exact hk208_4 _ _ _ _ (lv_sub hl [0] rfl) hw hf
        · have hf := x_iP hf q_15
          refine lv_iload_n hx hb dX11_expression_30 rfl (lv_at hl 1 rfl) ?_
          refine lv_if_eq (tgt := 42) hx hb dX11_expression_31 (by decide) (fun q_16 => ?_) (fun q_16 => ?_)
          · have hf := x_iP hf q_16
            refine lv_aload_n hx hb dX11_expression_42 rfl (lv_at hl 0 rfl) ?_
            obtain ⟨tv_19, tM_17, c_18, hf⟩ := x_bE hf
            refine x_vI C hw hl.1 [] [] (mX11_signHere l g h0 c_18) lk_X11_170 h0 (by decide) rfl (by decide) rfl (Nat.le_of_ble_eq_true rfl) ⟨Nat.zero_le _, Nat.zero_le _⟩ dX11_expression_43 (fun v_19 M_17 H locs hN hw => ?_)
            obtain ⟨rfl, rfl⟩ := hN
            refine lv_istore_n (lv' := [(3, .int v_19), (0, .ref (g.2.2.1 k0)), (1, .int x1_9), (2, .int x2_10)]) hx hb dX11_expression_46 rfl hl (by decide) rfl (fun ls hl => ?_)
            refine lv_iload_n hx hb dX11_expression_47 rfl (lv_at hl 0 rfl) ?_
            obtain ⟨k205_22, ek205_22, hf⟩ := x_jE hf
            have hk205_22 : ∀ (H : Heap) (locs : List Loc) (M_23 : xM) (x1_20 : Int32) (x2_21 : Int32) (ls : Array Slot) , lv_has ls 4 [(0, .ref (g.2.2.1 k0)), (1, .int x1_20), (2, .int x2_21)] → x_w g 1 s H locs M_23 → k205_22 M_23 x1_20 x2_21 = some M' → W p l e (x_rm 4 86) s m args below meth c H locs 0 0 Q (F0 m 205 ls []) := by
              intro H locs M_23 x1_20 x2_21 ls  hl hw hf
              rw [ek205_22] at hf
              refine lv_goto (tgt := 19) hx hb dX11_expression_205 (by decide) ?_
              exact ih_13 _ _ _ _ _ _ (lv_sub hl [0, 1, 2] rfl) hw hf
            refine lv_if_eq (tgt := 140) hx hb dX11_expression_48 (by decide) (fun q_24 => ?_) (fun q_24 => ?_)
            · have hf := x_iP hf q_24
              refine lv_aload_n hx hb dX11_expression_140 rfl (lv_at hl 1 rfl) ?_
              refine lv_bipush (v := (41 : Int32)) hx hb dX11_expression_141 (by decide) ?_
              obtain ⟨tv_27, tM_25, c_26, hf⟩ := x_bE hf
              refine x_vI C hw hl.1 [.int (41 : Int32)] [] (mX11_isSign l g h0 c_26) lk_X11_148 h0 (by decide) rfl (by decide) rfl (Nat.le_of_ble_eq_true rfl) ⟨Nat.zero_le _, Nat.zero_le _⟩ dX11_expression_143 (fun v_27 M_25 H locs hN hw => ?_)
              obtain ⟨rfl, rfl⟩ := hN
              obtain ⟨k192_28, ek192_28, hf⟩ := x_jE hf
              have hk192_28 : ∀ (H : Heap) (locs : List Loc) (M_29 : xM)  (ls : Array Slot) , lv_has ls 4 [(0, .ref (g.2.2.1 k0)), (1, .int x1_9)] → x_w g 1 s H locs M_29 → k192_28 M_29 = some M' → W p l e (x_rm 4 86) s m args below meth c H locs 0 0 Q (F0 m 192 ls []) := by
                intro H locs M_29  ls  hl hw hf
                rw [ek192_28] at hf
                refine lv_iconst (v := (0 : Int32)) hx hb dX11_expression_192 (by decide) ?_
                refine lv_istore_n (lv' := [(2, .int (0 : Int32)), (0, .ref (g.2.2.1 k0)), (1, .int x1_9)]) hx hb dX11_expression_193 rfl hl (by decide) rfl (fun ls hl => ?_)
                refine lv_aload_n hx hb dX11_expression_194 rfl (lv_at hl 1 rfl) ?_
                refine fg_X11_151 C hw h0 dX11_expression_195 ?_
                refine lv_if_le (tgt := 205) hx hb dX11_expression_198 (by decide) (fun q_30 => ?_) (fun q_30 => ?_)
                · have hf := x_iP hf q_30
                  exact hk205_22 _ _ _ _ _ _ (lv_sub hl [1, 2, 0] rfl) hw hf
                · have hf := x_iN hf q_30
                  refine lv_aload_n hx hb dX11_expression_201 rfl (lv_at hl 1 rfl) ?_
                  obtain ⟨tM_31, c_32, hf⟩ := x_vE hf
                  refine x_vV C hw hl.1 [] [] (mX11_wrong l g h0 c_32) lk_X11_125 h0 (by decide) rfl (by decide) rfl (Nat.le_of_ble_eq_true rfl) ⟨Nat.zero_le _, Nat.zero_le _⟩ dX11_expression_202 (fun M_31 H locs hN hw => ?_)
                  obtain rfl := hN
                  exact hk205_22 _ _ _ _ _ _ (lv_sub hl [1, 2, 0] rfl) hw hf
              refine lv_if_eq (tgt := 192) hx hb dX11_expression_146 (by decide) (fun q_33 => ?_) (fun q_33 => ?_)
              · have hf := x_iP hf q_33
                exact hk192_28 _ _ _ _ (lv_sub hl [1, 2] rfl) hw hf
              · have hf := x_iN hf q_33
                refine lv_aload_n hx hb dX11_expression_149 rfl (lv_at hl 1 rfl) ?_
                refine fg_X11_151 C hw h0 dX11_expression_150 ?_
                refine lv_if_le (tgt := 192) hx hb dX11_expression_153 (by decide) (fun q_34 => ?_) (fun q_34 => ?_)
                · have hf := x_iP hf q_34
                  exact hk192_28 _ _ _ _ (lv_sub hl [1, 2] rfl) hw hf
                · have hf := x_iN hf q_34
                  refine lv_aload_n hx hb dX11_expression_156 rfl (lv_at hl 1 rfl) ?_
                  refine lv_iconst (v := (1 : Int32)) hx hb dX11_expression_157 (by decide) ?_
                  obtain ⟨tM_35, c_36, hf⟩ := x_vE hf
                  refine x_vV C hw hl.1 [.int (1 : Int32)] [] (mX11_works l g h0 c_36) lk_X11_174 h0 (by decide) rfl (by decide) rfl (Nat.le_of_ble_eq_true rfl) ⟨Nat.zero_le _, Nat.zero_le _⟩ dX11_expression_158 (fun M_35 H locs hN hw => ?_)
                  obtain rfl := hN
                  refine lv_aload_n hx hb dX11_expression_161 rfl (lv_at hl 1 rfl) ?_
                  refine lv_dup hx hb dX11_expression_162 rfl ?_
                  refine fg_X11_138 C hw h0 dX11_expression_163 ?_
                  refine lv_iconst (v := (1 : Int32)) hx hb dX11_expression_166 (by decide) ?_
                  refine lv_isub hx hb dX11_expression_167 ?_
                  refine fp_X11_138 C hw h0 dX11_expression_168 (fun H locs hw => ?_)
                  obtain ⟨M_37, eM_37⟩ : ∃ z, z = (x_up M_35 k0 16 ((M_35 k0 16) - (1 : Int32))) := ⟨_, rfl⟩
                  rw [← eM_37] at hw
                  have hf := x_lE eM_37 hf
                  refine lv_aload_n hx hb dX11_expression_171 rfl (lv_at hl 1 rfl) ?_
                  refine lv_dup hx hb dX11_expression_172 rfl ?_
                  refine fg_X11_151 C hw h0 dX11_expression_173 ?_
                  refine lv_iconst (v := (1 : Int32)) hx hb dX11_expression_176 (by decide) ?_
                  refine lv_isub hx hb dX11_expression_177 ?_
                  refine fp_X11_151 C hw h0 dX11_expression_178 (fun H locs hw => ?_)
                  obtain ⟨M_38, eM_38⟩ : ∃ z, z = (x_up M_37 k0 17 ((M_37 k0 17) - (1 : Int32))) := ⟨_, rfl⟩
                  rw [← eM_38] at hw
                  have hf := x_lE eM_38 hf
                  refine lv_aload_n hx hb dX11_expression_181 rfl (lv_at hl 1 rfl) ?_
                  obtain ⟨tM_39, c_40, hf⟩ := x_vE hf
                  refine x_vV C hw hl.1 [] [] (mX11_next l g h0 c_40) lk_X11_154 h0 (by decide) rfl (by decide) rfl (Nat.le_of_ble_eq_true rfl) ⟨Nat.zero_le _, Nat.zero_le _⟩ dX11_expression_182 (fun M_39 H locs hN hw => ?_)
                  obtain rfl := hN
                  refine lv_aload_n hx hb dX11_expression_185 rfl (lv_at hl 1 rfl) ?_
                  obtain ⟨tM_41, c_42, hf⟩ := x_vE hf
                  refine x_vV C hw hl.1 [] [] (mX11_parted l g h0 c_42) lk_X11_163 h0 (by decide) rfl (by decide) rfl (Nat.le_of_ble_eq_true rfl) ⟨Nat.zero_le _, Nat.zero_le _⟩ dX11_expression_186 (fun M_41 H locs hN hw => ?_)
                  obtain rfl := hN
                  refine lv_goto (tgt := 205) hx hb dX11_expression_189 (by decide) ?_
                  exact hk205_22 _ _ _ _ _ _ (lv_sub hl [1, 2, 3] rfl) hw hf
            · have hf := x_iN hf q_24
              refine lv_aload_n hx hb dX11_expression_51 rfl (lv_at hl 1 rfl) ?_
              refine lv_iload_n hx hb dX11_expression_52 rfl (lv_at hl 0 rfl) ?_
              refine lv_bipush (v := (10 : Int32)) hx hb dX11_expression_53 (by decide) ?_
              obtain ⟨q_43, hf⟩ := x_dE hf
              refine lv_idiv hx hb dX11_expression_55 q_43 ?_
              refine lv_iconst (v := (3 : Int32)) hx hb dX11_expression_56 (by decide) ?_
              obtain ⟨k68_45, ek68_45, hf⟩ := x_jE hf
              have hk68_45 : ∀ (H : Heap) (locs : List Loc) (M_46 : xM) (z_44 : Int32) (ls : Array Slot) , lv_has ls 4 [(3, .int v_19), (0, .ref (g.2.2.1 k0)), (1, .int x1_9), (2, .int x2_10)] → x_w g 1 s H locs M_46 → k68_45 M_46 z_44 = some M' → W p l e (x_rm 4 86) s m args below meth c H locs 0 0 Q (F0 m 68 ls [.int z_44, .ref (g.2.2.1 k0)]) := by
                intro H locs M_46 z_44 ls  hl hw hf
                rw [ek68_45] at hf
                obtain ⟨tM_47, c_48, hf⟩ := x_vE hf
                refine x_vV C hw hl.1 [.int z_44] [] (mX11_works l g h0 c_48) lk_X11_174 h0 (by decide) rfl (by decide) rfl (Nat.le_of_ble_eq_true rfl) ⟨Nat.zero_le _, Nat.zero_le _⟩ dX11_expression_68 (fun M_47 H locs hN hw => ?_)
                obtain rfl := hN
                refine lv_iload_n hx hb dX11_expression_71 rfl (lv_at hl 0 rfl) ?_
                refine lv_bipush (v := (10 : Int32)) hx hb dX11_expression_72 (by decide) ?_
                obtain ⟨q_49, hf⟩ := x_dE hf
                refine lv_idiv hx hb dX11_expression_74 q_49 ?_
                refine lv_iconst (v := (3 : Int32)) hx hb dX11_expression_75 (by decide) ?_
                obtain ⟨k111_50, ek111_50, hf⟩ := x_jE hf
                have hk111_50 : ∀ (H : Heap) (locs : List Loc) (M_51 : xM)  (ls : Array Slot) , lv_has ls 4 [(3, .int v_19), (0, .ref (g.2.2.1 k0)), (2, .int x2_10)] → x_w g 1 s H locs M_51 → k111_50 M_51 = some M' → W p l e (x_rm 4 86) s m args below meth c H locs 0 0 Q (F0 m 111 ls []) := by
                  intro H locs M_51  ls  hl hw hf
                  rw [ek111_50] at hf
                  refine lv_aload_n hx hb dX11_expression_111 rfl (lv_at hl 1 rfl) ?_
                  refine fg_X11_22 C hw h0 dX11_expression_112 ?_
                  have h_52 : x_is 1 (xr 1 k0 15) 12 := x_tm h0 (by decide) rfl
                  refine lv_aload_n hx hb dX11_expression_115 rfl (lv_at hl 1 rfl) ?_
                  refine fg_X11_138 C hw h0 dX11_expression_116 ?_
                  refine lv_iload_n hx hb dX11_expression_119 rfl (lv_at hl 0 rfl) ?_
                  obtain ⟨q_53, hf⟩ := x_gE hf
                  refine x_ast C hw h_52 q_53 dX11_expression_120 (fun H locs hw => ?_)
                  obtain ⟨M_54, eM_54⟩ : ∃ z, z = (x_up M_51 (xr 1 k0 15) (M_51 k0 16).toNatClampNeg v_19) := ⟨_, rfl⟩
                  rw [← eM_54] at hw
                  have hf := x_lE eM_54 hf
                  refine lv_aload_n hx hb dX11_expression_121 rfl (lv_at hl 1 rfl) ?_
                  refine lv_dup hx hb dX11_expression_122 rfl ?_
                  refine fg_X11_138 C hw h0 dX11_expression_123 ?_
                  refine lv_iconst (v := (1 : Int32)) hx hb dX11_expression_126 (by decide) ?_
                  refine lv_iadd hx hb dX11_expression_127 ?_
                  refine fp_X11_138 C hw h0 dX11_expression_128 (fun H locs hw => ?_)
                  obtain ⟨M_55, eM_55⟩ : ∃ z, z = (x_up M_54 k0 16 ((M_54 k0 16) + (1 : Int32))) := ⟨_, rfl⟩
                  rw [← eM_55] at hw
                  have hf := x_lE eM_55 hf
                  refine lv_iconst (v := (1 : Int32)) hx hb dX11_expression_131 (by decide) ?_
                  refine lv_istore_n (lv' := [(1, .int (1 : Int32)), (3, .int v_19), (0, .ref (g.2.2.1 k0)), (2, .int x2_10)]) hx hb dX11_expression_132 rfl hl (by decide) rfl (fun ls hl => ?_)
                  refine lv_aload_n hx hb dX11_expression_133 rfl (lv_at hl 2 rfl) ?_
                  obtain ⟨tM_56, c_57, hf⟩ := x_vE hf
                  refine x_vV C hw hl.1 [] [] (mX11_next l g h0 c_57) lk_X11_154 h0 (by decide) rfl (by decide) rfl (Nat.le_of_ble_eq_true rfl) ⟨Nat.zero_le _, Nat.zero_le _⟩ dX11_expression_134 (fun M_56 H locs hN hw => ?_)
                  obtain rfl := hN
                  refine lv_goto (tgt := 205) hx hb dX11_expression_137 (by decide) ?_
                  exact hk205_22 _ _ _ _ _ _ (lv_sub hl [2, 0, 3] rfl) hw hf
                refine lv_icmp_ne (tgt := 111) hx hb dX11_expression_76 (by decide) (fun q_58 => ?_) (fun q_58 => ?_)
                · have hf := x_iN hf q_58
                  exact hk111_50 _ _ _ _ (lv_sub hl [0, 1, 3] rfl) hw hf
                · have hf := x_iP hf q_58
                  refine lv_aload_n hx hb dX11_expression_79 rfl (lv_at hl 1 rfl) ?_
                  refine fg_X11_138 C hw h0 dX11_expression_80 ?_
                  refine lv_if_le (tgt := 111) hx hb dX11_expression_83 (by decide) (fun q_59 => ?_) (fun q_59 => ?_)
                  · have hf := x_iP hf q_59
                    exact hk111_50 _ _ _ _ (lv_sub hl [0, 1, 3] rfl) hw hf
                  · have hf := x_iN hf q_59
                    refine lv_aload_n hx hb dX11_expression_86 rfl (lv_at hl 1 rfl) ?_
                    refine fg_X11_22 C hw h0 dX11_expression_87 ?_
                    have h_60 : x_is 1 (xr 1 k0 15) 12 := x_tm h0 (by decide) rfl
                    refine lv_aload_n hx hb dX11_expression_90 rfl (lv_at hl 1 rfl) ?_
                    refine fg_X11_138 C hw h0 dX11_expression_91 ?_
                    refine lv_iconst (v := (1 : Int32)) hx hb dX11_expression_94 (by decide) ?_
                    refine lv_isub hx hb dX11_expression_95 ?_
                    obtain ⟨q_61, hf⟩ := x_gE hf
                    refine x_ald C hw h_60 q_61 dX11_expression_96 ?_
                    refine lv_bipush (v := (10 : Int32)) hx hb dX11_expression_97 (by decide) ?_
                    obtain ⟨q_62, hf⟩ := x_dE hf
                    refine lv_idiv hx hb dX11_expression_99 q_62 ?_
                    refine lv_iconst (v := (3 : Int32)) hx hb dX11_expression_100 (by decide) ?_
                    refine lv_icmp_ne (tgt := 111) hx hb dX11_expression_101 (by decide) (fun q_63 => ?_) (fun q_63 => ?_)
                    · have hf := x_iN hf q_63
                      exact hk111_50 _ _ _ _ (lv_sub hl [0, 1, 3] rfl) hw hf
                    · have hf := x_iP hf q_63
                      refine lv_aload_n hx hb dX11_expression_104 rfl (lv_at hl 1 rfl) ?_
                      obtain ⟨tM_64, c_65, hf⟩ := x_vE hf
                      refine x_vV C hw hl.1 [] [] (mX11_wrong l g h0 c_65) lk_X11_125 h0 (by decide) rfl (by decide) rfl (Nat.le_of_ble_eq_true rfl) ⟨Nat.zero_le _, Nat.zero_le _⟩ dX11_expression_105 (fun M_64 H locs hN hw => ?_)
                      obtain rfl := hN
                      refine lv_goto (tgt := 205) hx hb dX11_expression_108 (by decide) ?_
                      exact hk205_22 _ _ _ _ _ _ (lv_sub hl [1, 2, 3] rfl) hw hf
              refine lv_icmp_ne (tgt := 64) hx hb dX11_expression_57 (by decide) (fun q_66 => ?_) (fun q_66 => ?_)
              · have hf := x_iN hf q_66
                refine lv_iload_n hx hb dX11_expression_64 rfl (lv_at hl 0 rfl) ?_
                refine lv_bipush (v := (10 : Int32)) hx hb dX11_expression_65 (by decide) ?_
                obtain ⟨q_67, hf⟩ := x_dE hf
                refine lv_idiv hx hb dX11_expression_67 q_67 ?_
                exact hk68_45 _ _ _ _ _ (lv_sub hl [0, 1, 2, 3] rfl) hw hf
              · have hf := x_iP hf q_66
                refine lv_iconst (v := (4 : Int32)) hx hb dX11_expression_60 (by decide) ?_
                refine lv_goto (tgt := 68) hx hb dX11_expression_61 (by decide) ?_
                exact hk68_45 _ _ _ _ _ (lv_sub hl [0, 1, 2, 3] rfl) hw hf
          · have hf := x_iN hf q_16
            refine lv_aload_n hx hb dX11_expression_34 rfl (lv_at hl 0 rfl) ?_
            obtain ⟨tv_70, tM_68, c_69, hf⟩ := x_bE hf
            refine x_vI C hw hl.1 [] [] (mX11_begins l g h0 c_69) lk_X11_166 h0 (by decide) rfl (by decide) rfl (Nat.le_of_ble_eq_true rfl) ⟨Nat.zero_le _, Nat.zero_le _⟩ dX11_expression_35 (fun v_70 M_68 H locs hN hw => ?_)
            obtain ⟨rfl, rfl⟩ := hN
            refine lv_istore_n (lv' := [(1, .int v_70), (0, .ref (g.2.2.1 k0)), (2, .int x2_10)]) hx hb dX11_expression_38 rfl hl (by decide) rfl (fun ls hl => ?_)
            refine lv_goto (tgt := 19) hx hb dX11_expression_39 (by decide) ?_
            exact ih_13 _ _ _ _ _ _ (lv_sub hl [1, 0, 2] rfl) hw hf
  exact hL_71 _ _ _ _ _ _ _ (lv_sub hl [2, 1, 0] rfl) hw hf
def fX11_reads (M : xM) (k0 : Nat) (a1 : Int32) (a2 : Int32) : Option (xM) := if (M k0 10) = 0 then (x_l (x_up M k0 11 a1) fun M_2 => x_l (x_up M_2 k0 12 (0 : Int32)) fun M_3 => x_l (fun (M_5 : xM) => x_v (fX11_next M_5 k0) fun M_6 => x_v (fX11_expression M_6 k0) fun M_8 => x_g ((241 : Int32) * a1) (xn 1 (xr 1 k0 14)) (x_l (x_up M_8 (xr 1 k0 14) ((241 : Int32) * a1).toNatClampNeg (M_8 k0 12)) fun M_12 => some M_12)) fun k26_4 => if a2 = 0 then (x_v (fX11_wrong M_3 k0) fun M_14 => k26_4 M_14) else (k26_4 M_3)) else (some M)
set_option maxRecDepth 100000 in
set_option maxHeartbeats 4000000 in
theorem mX11_reads (l : Launch) (g : xG) {k0 : Nat} {a1 : Int32} {a2 : Int32} {M' : xM} (h0 : x_is 1 k0 11) {M : xM} (hf : fX11_reads M k0 a1 a2 = some M') : x_cV l g 1 yX11_reads cX11_reads 3 5 109 [.ref (g.2.2.1 k0), .int a1, .int a2] M (fun N => N = M') := by
  refine x_stV RX11 (by decide) rfl (Nat.le_of_ble_eq_true rfl) ?_
  intro p e s m args below meth c Q ls C hw ret hl
  obtain ⟨hx, hb, hml, hown, hB, -⟩ := id C
  have hl : lv_has ls 3 [(0, .ref (g.2.2.1 k0)), (1, .int a1), (2, .int a2)] := hl
  unfold fX11_reads at hf
  refine lv_aload_n hx hb dX11_reads_0 rfl (lv_at hl 0 rfl) ?_
  refine fg_X11_103 C hw h0 dX11_reads_1 ?_
  refine lv_if_eq (tgt := 8) hx hb dX11_reads_4 (by decide) (fun q_1 => ?_) (fun q_1 => ?_)
  · have hf := x_iP hf q_1
    refine lv_aload_n hx hb dX11_reads_8 rfl (lv_at hl 0 rfl) ?_
    refine lv_iload_n hx hb dX11_reads_9 rfl (lv_at hl 1 rfl) ?_
    refine fp_X11_132 C hw h0 dX11_reads_10 (fun H locs hw => ?_)
    obtain ⟨M_2, eM_2⟩ : ∃ z, z = (x_up M k0 11 a1) := ⟨_, rfl⟩
    rw [← eM_2] at hw
    have hf := x_lE eM_2 hf
    refine lv_aload_n hx hb dX11_reads_13 rfl (lv_at hl 0 rfl) ?_
    refine lv_iconst (v := (0 : Int32)) hx hb dX11_reads_14 (by decide) ?_
    refine fp_X11_135 C hw h0 dX11_reads_15 (fun H locs hw => ?_)
    obtain ⟨M_3, eM_3⟩ : ∃ z, z = (x_up M_2 k0 12 (0 : Int32)) := ⟨_, rfl⟩
    rw [← eM_3] at hw
    have hf := x_lE eM_3 hf
    refine lv_iload_n hx hb dX11_reads_18 rfl (lv_at hl 2 rfl) ?_
    obtain ⟨k26_4, ek26_4, hf⟩ := x_jE hf
    have hk26_4 : ∀ (H : Heap) (locs : List Loc) (M_5 : xM)  (ls : Array Slot) , lv_has ls 3 [(0, .ref (g.2.2.1 k0)), (1, .int a1)] → x_w g 1 s H locs M_5 → k26_4 M_5 = some M' → W p l e (x_rm 5 109) s m args below meth c H locs 0 0 Q (F0 m 26 ls []) := by
      intro H locs M_5  ls  hl hw hf
      rw [ek26_4] at hf
      refine lv_aload_n hx hb dX11_reads_26 rfl (lv_at hl 0 rfl) ?_
      obtain ⟨tM_6, c_7, hf⟩ := x_vE hf
      refine x_vV C hw hl.1 [] [] (mX11_next l g h0 c_7) lk_X11_154 h0 (by decide) rfl (by decide) rfl (Nat.le_of_ble_eq_true rfl) ⟨Nat.zero_le _, Nat.zero_le _⟩ dX11_reads_27 (fun M_6 H locs hN hw => ?_)
      obtain rfl := hN
      refine lv_aload_n hx hb dX11_reads_30 rfl (lv_at hl 0 rfl) ?_
      obtain ⟨tM_8, c_9, hf⟩ := x_vE hf
      refine x_vV C hw hl.1 [] [] (mX11_expression l g h0 c_9) lk_X11_178 h0 (by decide) rfl (by decide) rfl (Nat.le_of_ble_eq_true rfl) ⟨Nat.zero_le _, Nat.zero_le _⟩ dX11_reads_31 (fun M_8 H locs hN hw => ?_)
      obtain rfl := hN
      refine lv_aload_n hx hb dX11_reads_34 rfl (lv_at hl 0 rfl) ?_
      refine fg_X11_19 C hw h0 dX11_reads_35 ?_
      have h_10 : x_is 1 (xr 1 k0 14) 12 := x_tm h0 (by decide) rfl
      refine lv_sipush (v := (241 : Int32)) hx hb dX11_reads_38 (by decide) ?_
      refine lv_iload_n hx hb dX11_reads_41 rfl (lv_at hl 1 rfl) ?_
      refine lv_imul hx hb dX11_reads_42 ?_
      refine lv_aload_n hx hb dX11_reads_43 rfl (lv_at hl 0 rfl) ?_
      refine fg_X11_135 C hw h0 dX11_reads_44 ?_
      obtain ⟨q_11, hf⟩ := x_gE hf
      refine x_ast C hw h_10 q_11 dX11_reads_47 (fun H locs hw => ?_)
      obtain ⟨M_12, eM_12⟩ : ∃ z, z = (x_up M_8 (xr 1 k0 14) ((241 : Int32) * a1).toNatClampNeg (M_8 k0 12)) := ⟨_, rfl⟩
      rw [← eM_12] at hw
      have hf := x_lE eM_12 hf
      exact ret hf dX11_reads_48 hw
    refine lv_if_ne (tgt := 26) hx hb dX11_reads_19 (by decide) (fun q_13 => ?_) (fun q_13 => ?_)
    · have hf := x_iN hf q_13
      exact hk26_4 _ _ _ _ (lv_sub hl [0, 1] rfl) hw hf
    · have hf := x_iP hf q_13
      refine lv_aload_n hx hb dX11_reads_22 rfl (lv_at hl 0 rfl) ?_
      obtain ⟨tM_14, c_15, hf⟩ := x_vE hf
      refine x_vV C hw hl.1 [] [] (mX11_wrong l g h0 c_15) lk_X11_125 h0 (by decide) rfl (by decide) rfl (Nat.le_of_ble_eq_true rfl) ⟨Nat.zero_le _, Nat.zero_le _⟩ dX11_reads_23 (fun M_14 H locs hN hw => ?_)
      obtain rfl := hN
      exact hk26_4 _ _ _ _ (lv_sub hl [0, 1] rfl) hw hf
  · have hf := x_iN hf q_1
    exact ret hf dX11_reads_7 hw
def fX11_law_L126 (k0 : Nat) (k155_28 : xM → Option (Int32 × xM)) : Nat → xM → Int32 → Option (Int32 × xM)
  | 0, _, _ => none
  | n_35 + 1, M_34, x1_33 => if (723 : Int32) ≤ x1_33 then (k155_28 M_34) else (x_g x1_33 (xn 1 (xr 1 k0 14)) (x_g ((952 : Int32) + x1_33) (xn 1 (xr 1 k0 0)) (x_l (x_up M_34 (xr 1 k0 0) ((952 : Int32) + x1_33).toNatClampNeg (M_34 (xr 1 k0 14) x1_33.toNatClampNeg)) fun M_42 => x_l (x1_33 + (1 : Int32)) fun x1_43 => fX11_law_L126 k0 k155_28 n_35 M_42 x1_43)))
def fX11_law (M : xM) (k0 : Nat) : Option (Int32 × xM) := x_l (x_up M k0 7 (M k0 4)) fun M_1 => x_l (x_up M_1 k0 4 (0 : Int32)) fun M_2 => x_l (x_up M_2 k0 6 (0 : Int32)) fun M_3 => x_l (x_up M_3 k0 8 (0 : Int32)) fun M_4 => x_z (0 : Int32) (x_l (x_up M_4 k0 10 (0 : Int32)) fun M_5 => x_l (x_up M_5 k0 13 (0 : Int32)) fun M_7 => x_v (fX11_next M_7 k0) fun M_8 => x_b (fX11_isWord M_8 k0 (100 : Int32) (97 : Int32) (121 : Int32) (115 : Int32) (0 : Int32)) fun v_12 M_10 => x_v (fX11_reads M_10 k0 (0 : Int32) v_12) fun M_13 => x_b (fX11_isWord M_13 k0 (115 : Int32) (117 : Int32) (109 : Int32) (0 : Int32) (0 : Int32)) fun v_17 M_15 => x_v (fX11_reads M_15 k0 (1 : Int32) v_17) fun M_18 => x_b (fX11_isWord M_18 k0 (104 : Int32) (111 : Int32) (117 : Int32) (114 : Int32) (115 : Int32)) fun v_22 M_20 => x_v (fX11_reads M_20 k0 (2 : Int32) v_22) fun M_23 => x_l (fun (M_26 : xM) => if (M_26 k0 10) = 0 then (x_l (fun (M_29 : xM) => x_g (21 : Int32) (xn 1 (xr 1 k0 0)) (x_l (x_up M_29 (xr 1 k0 0) (21 : Int32).toNatClampNeg (1 : Int32)) fun M_32 => some ((M_32 k0 13), M_32))) fun k155_28 => fX11_law_L126 k0 k155_28 x_FU M_26 (0 : Int32)) else (some (((-100 : Int32) - (M_26 k0 9)), M_26))) fun k109_25 => if (M_23 k0 10) = 0 then (if (M_23 k0 8) = 0 then (k109_25 M_23) else (x_v (fX11_wrong M_23 k0) fun M_47 => k109_25 M_47)) else (k109_25 M_23))
set_option maxRecDepth 100000 in
set_option maxHeartbeats 4000000 in
theorem mX11_law (l : Launch) (g : xG) {k0 : Nat} {r : Int32} {M' : xM} (h0 : x_is 1 k0 11) {M : xM} (hf : fX11_law M k0 = some (r, M')) : x_cI l g 1 yX11_law cX11_law 2 .int 6 131 [.ref (g.2.2.1 k0)] M (fun v N => v = r ∧ N = M') := by
  refine x_stI RX11 (by decide) rfl (Nat.le_of_ble_eq_true rfl) ?_
  intro p e s m args below meth c Q ls C hw ret hl
  obtain ⟨hx, hb, hml, hown, hB, -⟩ := id C
  have hl : lv_has ls 2 [(0, .ref (g.2.2.1 k0))] := hl
  unfold fX11_law at hf
  refine lv_aload_n hx hb dX11_law_0 rfl (lv_at hl 0 rfl) ?_
  refine lv_aload_n hx hb dX11_law_1 rfl (lv_at hl 0 rfl) ?_
  refine fg_X11_99 C hw h0 dX11_law_2 ?_
  refine fp_X11_116 C hw h0 dX11_law_5 (fun H locs hw => ?_)
  obtain ⟨M_1, eM_1⟩ : ∃ z, z = (x_up M k0 7 (M k0 4)) := ⟨_, rfl⟩
  rw [← eM_1] at hw
  have hf := x_lE eM_1 hf
  refine lv_aload_n hx hb dX11_law_8 rfl (lv_at hl 0 rfl) ?_
  refine lv_iconst (v := (0 : Int32)) hx hb dX11_law_9 (by decide) ?_
  refine fp_X11_99 C hw h0 dX11_law_10 (fun H locs hw => ?_)
  obtain ⟨M_2, eM_2⟩ : ∃ z, z = (x_up M_1 k0 4 (0 : Int32)) := ⟨_, rfl⟩
  rw [← eM_2] at hw
  have hf := x_lE eM_2 hf
  refine lv_aload_n hx hb dX11_law_13 rfl (lv_at hl 0 rfl) ?_
  refine lv_iconst (v := (0 : Int32)) hx hb dX11_law_14 (by decide) ?_
  refine fp_X11_113 C hw h0 dX11_law_15 (fun H locs hw => ?_)
  obtain ⟨M_3, eM_3⟩ : ∃ z, z = (x_up M_2 k0 6 (0 : Int32)) := ⟨_, rfl⟩
  rw [← eM_3] at hw
  have hf := x_lE eM_3 hf
  refine lv_aload_n hx hb dX11_law_18 rfl (lv_at hl 0 rfl) ?_
  refine lv_iconst (v := (0 : Int32)) hx hb dX11_law_19 (by decide) ?_
  refine fp_X11_119 C hw h0 dX11_law_20 (fun H locs hw => ?_)
  obtain ⟨M_4, eM_4⟩ : ∃ z, z = (x_up M_3 k0 8 (0 : Int32)) := ⟨_, rfl⟩
  rw [← eM_4] at hw
  have hf := x_lE eM_4 hf
  refine lv_aload_n hx hb dX11_law_23 rfl (lv_at hl 0 rfl) ?_
  refine lv_iconst (v := (0 : Int32)) hx hb dX11_law_24 (by decide) ?_
  obtain ⟨q_6, hf⟩ := x_zE hf
  refine fp_X11_103 C hw q_6 h0 dX11_law_25 (fun H locs hw => ?_)
  obtain ⟨M_5, eM_5⟩ : ∃ z, z = (x_up M_4 k0 10 (0 : Int32)) := ⟨_, rfl⟩
  rw [← eM_5] at hw
  have hf := x_lE eM_5 hf
  refine lv_aload_n hx hb dX11_law_28 rfl (lv_at hl 0 rfl) ?_
  refine lv_iconst (v := (0 : Int32)) hx hb dX11_law_29 (by decide) ?_
  refine fp_X11_160 C hw h0 dX11_law_30 (fun H locs hw => ?_)
  obtain ⟨M_7, eM_7⟩ : ∃ z, z = (x_up M_5 k0 13 (0 : Int32)) := ⟨_, rfl⟩
  rw [← eM_7] at hw
  have hf := x_lE eM_7 hf
  refine lv_aload_n hx hb dX11_law_33 rfl (lv_at hl 0 rfl) ?_
  obtain ⟨tM_8, c_9, hf⟩ := x_vE hf
  refine x_vV C hw hl.1 [] [] (mX11_next l g h0 c_9) lk_X11_154 h0 (by decide) rfl (by decide) rfl (Nat.le_of_ble_eq_true rfl) ⟨Nat.zero_le _, Nat.zero_le _⟩ dX11_law_34 (fun M_8 H locs hN hw => ?_)
  obtain rfl := hN
  refine lv_aload_n hx hb dX11_law_37 rfl (lv_at hl 0 rfl) ?_
  refine lv_iconst (v := (0 : Int32)) hx hb dX11_law_38 (by decide) ?_
  refine lv_aload_n hx hb dX11_law_39 rfl (lv_at hl 0 rfl) ?_
  refine lv_bipush (v := (100 : Int32)) hx hb dX11_law_40 (by decide) ?_
  refine lv_bipush (v := (97 : Int32)) hx hb dX11_law_42 (by decide) ?_
  refine lv_bipush (v := (121 : Int32)) hx hb dX11_law_44 (by decide) ?_
  refine lv_bipush (v := (115 : Int32)) hx hb dX11_law_46 (by decide) ?_
  refine lv_iconst (v := (0 : Int32)) hx hb dX11_law_48 (by decide) ?_
  obtain ⟨tv_12, tM_10, c_11, hf⟩ := x_bE hf
  refine x_vI C hw hl.1 [.int (100 : Int32), .int (97 : Int32), .int (121 : Int32), .int (115 : Int32), .int (0 : Int32)] [.int (0 : Int32), .ref (g.2.2.1 k0)] (mX11_isWord l g h0 c_11) lk_X11_181 h0 (by decide) rfl (by decide) rfl (Nat.le_of_ble_eq_true rfl) ⟨Nat.zero_le _, Nat.zero_le _⟩ dX11_law_49 (fun v_12 M_10 H locs hN hw => ?_)
  obtain ⟨rfl, rfl⟩ := hN
  obtain ⟨tM_13, c_14, hf⟩ := x_vE hf
  refine x_vV C hw hl.1 [.int (0 : Int32), .int v_12] [] (mX11_reads l g h0 c_14) lk_X11_185 h0 (by decide) rfl (by decide) rfl (Nat.le_of_ble_eq_true rfl) ⟨Nat.zero_le _, Nat.zero_le _⟩ dX11_law_52 (fun M_13 H locs hN hw => ?_)
  obtain rfl := hN
  refine lv_aload_n hx hb dX11_law_55 rfl (lv_at hl 0 rfl) ?_
  refine lv_iconst (v := (1 : Int32)) hx hb dX11_law_56 (by decide) ?_
  refine lv_aload_n hx hb dX11_law_57 rfl (lv_at hl 0 rfl) ?_
  refine lv_bipush (v := (115 : Int32)) hx hb dX11_law_58 (by decide) ?_
  refine lv_bipush (v := (117 : Int32)) hx hb dX11_law_60 (by decide) ?_
  refine lv_bipush (v := (109 : Int32)) hx hb dX11_law_62 (by decide) ?_
  refine lv_iconst (v := (0 : Int32)) hx hb dX11_law_64 (by decide) ?_
  refine lv_iconst (v := (0 : Int32)) hx hb dX11_law_65 (by decide) ?_
  obtain ⟨tv_17, tM_15, c_16, hf⟩ := x_bE hf
  refine x_vI C hw hl.1 [.int (115 : Int32), .int (117 : Int32), .int (109 : Int32), .int (0 : Int32), .int (0 : Int32)] [.int (1 : Int32), .ref (g.2.2.1 k0)] (mX11_isWord l g h0 c_16) lk_X11_181 h0 (by decide) rfl (by decide) rfl (Nat.le_of_ble_eq_true rfl) ⟨Nat.zero_le _, Nat.zero_le _⟩ dX11_law_66 (fun v_17 M_15 H locs hN hw => ?_)
  obtain ⟨rfl, rfl⟩ := hN
  obtain ⟨tM_18, c_19, hf⟩ := x_vE hf
  refine x_vV C hw hl.1 [.int (1 : Int32), .int v_17] [] (mX11_reads l g h0 c_19) lk_X11_185 h0 (by decide) rfl (by decide) rfl (Nat.le_of_ble_eq_true rfl) ⟨Nat.zero_le _, Nat.zero_le _⟩ dX11_law_69 (fun M_18 H locs hN hw => ?_)
  obtain rfl := hN
  refine lv_aload_n hx hb dX11_law_72 rfl (lv_at hl 0 rfl) ?_
  refine lv_iconst (v := (2 : Int32)) hx hb dX11_law_73 (by decide) ?_
  refine lv_aload_n hx hb dX11_law_74 rfl (lv_at hl 0 rfl) ?_
  refine lv_bipush (v := (104 : Int32)) hx hb dX11_law_75 (by decide) ?_
  refine lv_bipush (v := (111 : Int32)) hx hb dX11_law_77 (by decide) ?_
  refine lv_bipush (v := (117 : Int32)) hx hb dX11_law_79 (by decide) ?_
  refine lv_bipush (v := (114 : Int32)) hx hb dX11_law_81 (by decide) ?_
  refine lv_bipush (v := (115 : Int32)) hx hb dX11_law_83 (by decide) ?_
  obtain ⟨tv_22, tM_20, c_21, hf⟩ := x_bE hf
  refine x_vI C hw hl.1 [.int (104 : Int32), .int (111 : Int32), .int (117 : Int32), .int (114 : Int32), .int (115 : Int32)] [.int (2 : Int32), .ref (g.2.2.1 k0)] (mX11_isWord l g h0 c_21) lk_X11_181 h0 (by decide) rfl (by decide) rfl (Nat.le_of_ble_eq_true rfl) ⟨Nat.zero_le _, Nat.zero_le _⟩ dX11_law_85 (fun v_22 M_20 H locs hN hw => ?_)
  obtain ⟨rfl, rfl⟩ := hN
  obtain ⟨tM_23, c_24, hf⟩ := x_vE hf
  refine x_vV C hw hl.1 [.int (2 : Int32), .int v_22] [] (mX11_reads l g h0 c_24) lk_X11_185 h0 (by decide) rfl (by decide) rfl (Nat.le_of_ble_eq_true rfl) ⟨Nat.zero_le _, Nat.zero_le _⟩ dX11_law_88 (fun M_23 H locs hN hw => ?_)
  obtain rfl := hN
  refine lv_aload_n hx hb dX11_law_91 rfl (lv_at hl 0 rfl) ?_
  refine fg_X11_103 C hw h0 dX11_law_92 ?_
  obtain ⟨k109_25, ek109_25, hf⟩ := x_jE hf
  have hk109_25 : ∀ (H : Heap) (locs : List Loc) (M_26 : xM)  (ls : Array Slot) , lv_has ls 2 [(0, .ref (g.2.2.1 k0))] → x_w g 1 s H locs M_26 → k109_25 M_26 = some (r, M') → W p l e (x_rm 6 131) s m args below meth c H locs 0 0 Q (F0 m 109 ls []) := by
    intro H locs M_26  ls  hl hw hf
    rw [ek109_25] at hf
    refine lv_aload_n hx hb dX11_law_109 rfl (lv_at hl 0 rfl) ?_
    refine fg_X11_103 C hw h0 dX11_law_110 ?_
    refine lv_if_eq (tgt := 124) hx hb dX11_law_113 (by decide) (fun q_27 => ?_) (fun q_27 => ?_)
    · have hf := x_iP hf q_27
      refine lv_iconst (v := (0 : Int32)) hx hb dX11_law_124 (by decide) ?_
      refine lv_istore_n (lv' := [(1, .int (0 : Int32)), (0, .ref (g.2.2.1 k0))]) hx hb dX11_law_125 rfl hl (by decide) rfl (fun ls hl => ?_)
      obtain ⟨k155_28, ek155_28, hf⟩ := x_jE hf
      have hk155_28 : ∀ (H : Heap) (locs : List Loc) (M_29 : xM)  (ls : Array Slot) , lv_has ls 2 [(0, .ref (g.2.2.1 k0))] → x_w g 1 s H locs M_29 → k155_28 M_29 = some (r, M') → W p l e (x_rm 6 131) s m args below meth c H locs 0 0 Q (F0 m 155 ls []) := by
        intro H locs M_29  ls  hl hw hf
        rw [ek155_28] at hf
        refine lv_aload_n hx hb dX11_law_155 rfl (lv_at hl 0 rfl) ?_
        refine fg_X11_7 C hw h0 dX11_law_156 ?_
        have h_30 : x_is 1 (xr 1 k0 0) 12 := x_tm h0 (by decide) rfl
        refine lv_bipush (v := (21 : Int32)) hx hb dX11_law_159 (by decide) ?_
        refine lv_iconst (v := (1 : Int32)) hx hb dX11_law_161 (by decide) ?_
        obtain ⟨q_31, hf⟩ := x_gE hf
        refine x_ast C hw h_30 q_31 dX11_law_162 (fun H locs hw => ?_)
        obtain ⟨M_32, eM_32⟩ : ∃ z, z = (x_up M_29 (xr 1 k0 0) (21 : Int32).toNatClampNeg (1 : Int32)) := ⟨_, rfl⟩
        rw [← eM_32] at hw
        have hf := x_lE eM_32 hf
        refine lv_aload_n hx hb dX11_law_163 rfl (lv_at hl 0 rfl) ?_
        refine fg_X11_160 C hw h0 dX11_law_164 ?_
        exact ret hf dX11_law_167 hw
      have hL_44 : ∀ (n_35 : Nat) (H : Heap) (locs : List Loc) (M_34 : xM) (x1_33 : Int32) (ls : Array Slot) , lv_has ls 2 [(0, .ref (g.2.2.1 k0)), (1, .int x1_33)] → x_w g 1 s H locs M_34 → fX11_law_L126 k0 k155_28 n_35 M_34 x1_33 = some (r, M') → W p l e (x_rm 6 131) s m args below meth c H locs 0 0 Q (F0 m 126 ls []) := by
        intro n_35
        induction n_35 with
        | zero =>
          intro H locs M_34 x1_33 ls  hl hw hf
          rw [fX11_law_L126] at hf
          cases hf
        | succ n_35 ih_36 =>
          intro H locs M_34 x1_33 ls  hl hw hf
          rw [fX11_law_L126] at hf
          refine lv_iload_n hx hb dX11_law_126 rfl (lv_at hl 1 rfl) ?_
          refine lv_sipush (v := (723 : Int32)) hx hb dX11_law_127 (by decide) ?_
          refine lv_icmp_ge (tgt := 155) hx hb dX11_law_130 (by decide) (fun q_37 => ?_) (fun q_37 => ?_)
          · have hf := x_iP hf q_37
            exact hk155_28 _ _ _ _ (lv_sub hl [0] rfl) hw hf
          · have hf := x_iN hf q_37
            refine lv_aload_n hx hb dX11_law_133 rfl (lv_at hl 0 rfl) ?_
            refine fg_X11_7 C hw h0 dX11_law_134 ?_
            have h_38 : x_is 1 (xr 1 k0 0) 12 := x_tm h0 (by decide) rfl
            refine lv_sipush (v := (952 : Int32)) hx hb dX11_law_137 (by decide) ?_
            refine lv_iload_n hx hb dX11_law_140 rfl (lv_at hl 1 rfl) ?_
            refine lv_iadd hx hb dX11_law_141 ?_
            refine lv_aload_n hx hb dX11_law_142 rfl (lv_at hl 0 rfl) ?_
            refine fg_X11_19 C hw h0 dX11_law_143 ?_
            have h_39 : x_is 1 (xr 1 k0 14) 12 := x_tm h0 (by decide) rfl
            refine lv_iload_n hx hb dX11_law_146 rfl (lv_at hl 1 rfl) ?_
            obtain ⟨q_40, hf⟩ := x_gE hf
            refine x_ald C hw h_39 q_40 dX11_law_147 ?_
            obtain ⟨q_41, hf⟩ := x_gE hf
            refine x_ast C hw h_38 q_41 dX11_law_148 (fun H locs hw => ?_)
            obtain ⟨M_42, eM_42⟩ : ∃ z, z = (x_up M_34 (xr 1 k0 0) ((952 : Int32) + x1_33).toNatClampNeg (M_34 (xr 1 k0 14) x1_33.toNatClampNeg)) := ⟨_, rfl⟩
            rw [← eM_42] at hw
            have hf := x_lE eM_42 hf
            obtain ⟨x1_43, ex1_43⟩ : ∃ z : Int32, z = (x1_33 + (1 : Int32)) := ⟨_, rfl⟩
            have hf := x_lE ex1_43 hf
            refine lv_iinc (v := x1_43) (lv' := [(1, .int x1_43), (0, .ref (g.2.2.1 k0))]) hx hb dX11_law_149 hl (k := 1) rfl (by rw [ex1_43]; rfl) (by decide) rfl (fun ls hl => ?_)
            refine lv_goto (tgt := 126) hx hb dX11_law_152 (by decide) ?_
            exact ih_36 _ _ _ _ _ (lv_sub hl [1, 0] rfl) hw hf
      exact hL_44 _ _ _ _ _ _ (lv_sub hl [1, 0] rfl) hw hf
    · have hf := x_iN hf q_27
      refine lv_bipush (v := (-100 : Int32)) hx hb dX11_law_116 (by decide) ?_
      refine lv_aload_n hx hb dX11_law_118 rfl (lv_at hl 0 rfl) ?_
      refine fg_X11_110 C hw h0 dX11_law_119 ?_
      refine lv_isub hx hb dX11_law_122 ?_
      exact ret hf dX11_law_123 hw
  refine lv_if_ne (tgt := 109) hx hb dX11_law_95 (by decide) (fun q_45 => ?_) (fun q_45 => ?_)
  · have hf := x_iN hf q_45
    exact hk109_25 _ _ _ _ (lv_sub hl [0] rfl) hw hf
  · have hf := x_iP hf q_45
    refine lv_aload_n hx hb dX11_law_98 rfl (lv_at hl 0 rfl) ?_
    refine fg_X11_119 C hw h0 dX11_law_99 ?_
    refine lv_if_eq (tgt := 109) hx hb dX11_law_102 (by decide) (fun q_46 => ?_) (fun q_46 => ?_)
    · have hf := x_iP hf q_46
      exact hk109_25 _ _ _ _ (lv_sub hl [0] rfl) hw hf
    · have hf := x_iN hf q_46
      refine lv_aload_n hx hb dX11_law_105 rfl (lv_at hl 0 rfl) ?_
      obtain ⟨tM_47, c_48, hf⟩ := x_vE hf
      refine x_vV C hw hl.1 [] [] (mX11_wrong l g h0 c_48) lk_X11_125 h0 (by decide) rfl (by decide) rfl (Nat.le_of_ble_eq_true rfl) ⟨Nat.zero_le _, Nat.zero_le _⟩ dX11_law_106 (fun M_47 H locs hN hw => ?_)
      obtain rfl := hN
      exact hk109_25 _ _ _ _ (lv_sub hl [0] rfl) hw hf
def fX11_both (M : xM) (a1 : Int32) (a2 : Int32) (a3 : Int32) : Option (Int32 × xM) := if a1 = (10 : Int32) then (x_l (fun (M_3 : xM) => some ((1 : Int32), M_3)) fun k84_2 => if a2 = 0 then (if a3 = 0 then (some ((0 : Int32), M)) else (k84_2 M)) else (k84_2 M)) else (if a1 = (20 : Int32) then (x_l (fun (M_8 : xM) => some ((0 : Int32), M_8)) fun k102_7 => if a2 = 0 then (k102_7 M) else (if a3 = 0 then (k102_7 M) else (some ((1 : Int32), M)))) else (if a1 = (30 : Int32) then (if a3 ≤ a2 then (some ((0 : Int32), M)) else (some ((1 : Int32), M))) else (if a1 = (31 : Int32) then (if a2 = a3 then (some ((1 : Int32), M)) else (some ((0 : Int32), M))) else (if a1 = (32 : Int32) then (if a2 ≤ a3 then (some ((0 : Int32), M)) else (some ((1 : Int32), M))) else (if a1 = (40 : Int32) then (some ((a2 + a3), M)) else (if a1 = (41 : Int32) then (some ((a2 - a3), M)) else (if a1 = (50 : Int32) then (some ((a2 * a3), M)) else (if a3 = 0 then (some ((0 : Int32), M)) else (x_d a3 (some ((a2 / a3), M)))))))))))
set_option maxRecDepth 100000 in
set_option maxHeartbeats 4000000 in
theorem mX11_both (l : Launch) (g : xG) {a1 : Int32} {a2 : Int32} {a3 : Int32} {r : Int32} {M' : xM}  {M : xM} (hf : fX11_both M a1 a2 a3 = some (r, M')) : x_cI l g 1 yX11_both cX11_both 3 .int 0 0 [.int a1, .int a2, .int a3] M (fun v N => v = r ∧ N = M') := by
  refine x_stI RX11 (by decide) rfl (Nat.le_of_ble_eq_true rfl) ?_
  intro p e s m args below meth c Q ls C hw ret hl
  obtain ⟨hx, hb, hml, hown, hB, -⟩ := id C
  have hl : lv_has ls 3 [(0, .int a1), (1, .int a2), (2, .int a3)] := hl
  unfold fX11_both at hf
  refine lv_iload_n hx hb dX11_both_0 rfl (lv_at hl 0 rfl) ?_
  by_cases q_1 : a1 = (10 : Int32)
  · have hf := x_iP hf q_1
    refine lv_lookup (off := 75) (tgt := 76) hx hb dX11_both_1 (by decide) (by rw [q_1]; rfl) (by decide) ?_
    refine lv_iload_n hx hb dX11_both_76 rfl (lv_at hl 1 rfl) ?_
    obtain ⟨k84_2, ek84_2, hf⟩ := x_jE hf
    have hk84_2 : ∀ (H : Heap) (locs : List Loc) (M_3 : xM)  (ls : Array Slot) , lv_has ls 3 [] → x_w g 1 s H locs M_3 → k84_2 M_3 = some (r, M') → W p l e (x_rm 0 0) s m args below meth c H locs 0 0 Q (F0 m 84 ls []) := by
      intro H locs M_3  ls  hl hw hf
      rw [ek84_2] at hf
      refine lv_iconst (v := (1 : Int32)) hx hb dX11_both_84 (by decide) ?_
      refine lv_goto (tgt := 89) hx hb dX11_both_85 (by decide) ?_
      exact ret hf dX11_both_89 hw
    refine lv_if_ne (tgt := 84) hx hb dX11_both_77 (by decide) (fun q_4 => ?_) (fun q_4 => ?_)
    · have hf := x_iN hf q_4
      exact hk84_2 _ _ _ _ (lv_sub hl [] rfl) hw hf
    · have hf := x_iP hf q_4
      refine lv_iload_n hx hb dX11_both_80 rfl (lv_at hl 2 rfl) ?_
      refine lv_if_eq (tgt := 88) hx hb dX11_both_81 (by decide) (fun q_5 => ?_) (fun q_5 => ?_)
      · have hf := x_iP hf q_5
        refine lv_iconst (v := (0 : Int32)) hx hb dX11_both_88 (by decide) ?_
        exact ret hf dX11_both_89 hw
      · have hf := x_iN hf q_5
        exact hk84_2 _ _ _ _ (lv_sub hl [] rfl) hw hf
  have hf := x_iN hf q_1
  by_cases q_6 : a1 = (20 : Int32)
  · have hf := x_iP hf q_6
    refine lv_lookup (off := 89) (tgt := 90) hx hb dX11_both_1 (by decide) (by rw [q_6]; rfl) (by decide) ?_
    refine lv_iload_n hx hb dX11_both_90 rfl (lv_at hl 1 rfl) ?_
    obtain ⟨k102_7, ek102_7, hf⟩ := x_jE hf
    have hk102_7 : ∀ (H : Heap) (locs : List Loc) (M_8 : xM)  (ls : Array Slot) , lv_has ls 3 [] → x_w g 1 s H locs M_8 → k102_7 M_8 = some (r, M') → W p l e (x_rm 0 0) s m args below meth c H locs 0 0 Q (F0 m 102 ls []) := by
      intro H locs M_8  ls  hl hw hf
      rw [ek102_7] at hf
      refine lv_iconst (v := (0 : Int32)) hx hb dX11_both_102 (by decide) ?_
      exact ret hf dX11_both_103 hw
    refine lv_if_eq (tgt := 102) hx hb dX11_both_91 (by decide) (fun q_9 => ?_) (fun q_9 => ?_)
    · have hf := x_iP hf q_9
      exact hk102_7 _ _ _ _ (lv_sub hl [] rfl) hw hf
    · have hf := x_iN hf q_9
      refine lv_iload_n hx hb dX11_both_94 rfl (lv_at hl 2 rfl) ?_
      refine lv_if_eq (tgt := 102) hx hb dX11_both_95 (by decide) (fun q_10 => ?_) (fun q_10 => ?_)
      · have hf := x_iP hf q_10
        exact hk102_7 _ _ _ _ (lv_sub hl [] rfl) hw hf
      · have hf := x_iN hf q_10
        refine lv_iconst (v := (1 : Int32)) hx hb dX11_both_98 (by decide) ?_
        refine lv_goto (tgt := 103) hx hb dX11_both_99 (by decide) ?_
        exact ret hf dX11_both_103 hw
  have hf := x_iN hf q_6
  by_cases q_11 : a1 = (30 : Int32)
  · have hf := x_iP hf q_11
    refine lv_lookup (off := 103) (tgt := 104) hx hb dX11_both_1 (by decide) (by rw [q_11]; rfl) (by decide) ?_
    refine lv_iload_n hx hb dX11_both_104 rfl (lv_at hl 1 rfl) ?_
    refine lv_iload_n hx hb dX11_both_105 rfl (lv_at hl 2 rfl) ?_
    refine lv_icmp_ge (tgt := 113) hx hb dX11_both_106 (by decide) (fun q_12 => ?_) (fun q_12 => ?_)
    · have hf := x_iP hf q_12
      refine lv_iconst (v := (0 : Int32)) hx hb dX11_both_113 (by decide) ?_
      exact ret hf dX11_both_114 hw
    · have hf := x_iN hf q_12
      refine lv_iconst (v := (1 : Int32)) hx hb dX11_both_109 (by decide) ?_
      refine lv_goto (tgt := 114) hx hb dX11_both_110 (by decide) ?_
      exact ret hf dX11_both_114 hw
  have hf := x_iN hf q_11
  by_cases q_13 : a1 = (31 : Int32)
  · have hf := x_iP hf q_13
    refine lv_lookup (off := 114) (tgt := 115) hx hb dX11_both_1 (by decide) (by rw [q_13]; rfl) (by decide) ?_
    refine lv_iload_n hx hb dX11_both_115 rfl (lv_at hl 1 rfl) ?_
    refine lv_iload_n hx hb dX11_both_116 rfl (lv_at hl 2 rfl) ?_
    refine lv_icmp_ne (tgt := 124) hx hb dX11_both_117 (by decide) (fun q_14 => ?_) (fun q_14 => ?_)
    · have hf := x_iN hf q_14
      refine lv_iconst (v := (0 : Int32)) hx hb dX11_both_124 (by decide) ?_
      exact ret hf dX11_both_125 hw
    · have hf := x_iP hf q_14
      refine lv_iconst (v := (1 : Int32)) hx hb dX11_both_120 (by decide) ?_
      refine lv_goto (tgt := 125) hx hb dX11_both_121 (by decide) ?_
      exact ret hf dX11_both_125 hw
  have hf := x_iN hf q_13
  by_cases q_15 : a1 = (32 : Int32)
  · have hf := x_iP hf q_15
    refine lv_lookup (off := 125) (tgt := 126) hx hb dX11_both_1 (by decide) (by rw [q_15]; rfl) (by decide) ?_
    refine lv_iload_n hx hb dX11_both_126 rfl (lv_at hl 1 rfl) ?_
    refine lv_iload_n hx hb dX11_both_127 rfl (lv_at hl 2 rfl) ?_
    refine lv_icmp_le (tgt := 135) hx hb dX11_both_128 (by decide) (fun q_16 => ?_) (fun q_16 => ?_)
    · have hf := x_iP hf q_16
      refine lv_iconst (v := (0 : Int32)) hx hb dX11_both_135 (by decide) ?_
      exact ret hf dX11_both_136 hw
    · have hf := x_iN hf q_16
      refine lv_iconst (v := (1 : Int32)) hx hb dX11_both_131 (by decide) ?_
      refine lv_goto (tgt := 136) hx hb dX11_both_132 (by decide) ?_
      exact ret hf dX11_both_136 hw
  have hf := x_iN hf q_15
  by_cases q_17 : a1 = (40 : Int32)
  · have hf := x_iP hf q_17
    refine lv_lookup (off := 136) (tgt := 137) hx hb dX11_both_1 (by decide) (by rw [q_17]; rfl) (by decide) ?_
    refine lv_iload_n hx hb dX11_both_137 rfl (lv_at hl 1 rfl) ?_
    refine lv_iload_n hx hb dX11_both_138 rfl (lv_at hl 2 rfl) ?_
    refine lv_iadd hx hb dX11_both_139 ?_
    exact ret hf dX11_both_140 hw
  have hf := x_iN hf q_17
  by_cases q_18 : a1 = (41 : Int32)
  · have hf := x_iP hf q_18
    refine lv_lookup (off := 140) (tgt := 141) hx hb dX11_both_1 (by decide) (by rw [q_18]; rfl) (by decide) ?_
    refine lv_iload_n hx hb dX11_both_141 rfl (lv_at hl 1 rfl) ?_
    refine lv_iload_n hx hb dX11_both_142 rfl (lv_at hl 2 rfl) ?_
    refine lv_isub hx hb dX11_both_143 ?_
    exact ret hf dX11_both_144 hw
  have hf := x_iN hf q_18
  by_cases q_19 : a1 = (50 : Int32)
  · have hf := x_iP hf q_19
    refine lv_lookup (off := 144) (tgt := 145) hx hb dX11_both_1 (by decide) (by rw [q_19]; rfl) (by decide) ?_
    refine lv_iload_n hx hb dX11_both_145 rfl (lv_at hl 1 rfl) ?_
    refine lv_iload_n hx hb dX11_both_146 rfl (lv_at hl 2 rfl) ?_
    refine lv_imul hx hb dX11_both_147 ?_
    exact ret hf dX11_both_148 hw
  have hf := x_iN hf q_19
  refine lv_lookup (off := 148) (tgt := 149) hx hb dX11_both_1 (by decide) ((lv_osw q_1 rfl).trans ((lv_osw q_6 rfl).trans ((lv_osw q_11 rfl).trans ((lv_osw q_13 rfl).trans ((lv_osw q_15 rfl).trans ((lv_osw q_17 rfl).trans ((lv_osw q_18 rfl).trans ((lv_osw q_19 rfl).trans (rfl))))))))) (by decide) ?_
  refine lv_iload_n hx hb dX11_both_149 rfl (lv_at hl 2 rfl) ?_
  refine lv_if_ne (tgt := 157) hx hb dX11_both_150 (by decide) (fun q_20 => ?_) (fun q_20 => ?_)
  · have hf := x_iN hf q_20
    refine lv_iload_n hx hb dX11_both_157 rfl (lv_at hl 1 rfl) ?_
    refine lv_iload_n hx hb dX11_both_158 rfl (lv_at hl 2 rfl) ?_
    obtain ⟨q_21, hf⟩ := x_dE hf
    refine lv_idiv hx hb dX11_both_159 q_21 ?_
    exact ret hf dX11_both_160 hw
  · have hf := x_iP hf q_20
    refine lv_iconst (v := (0 : Int32)) hx hb dX11_both_153 (by decide) ?_
    refine lv_goto (tgt := 160) hx hb dX11_both_154 (by decide) ?_
    exact ret hf dX11_both_160 hw
def fX11_worked_L15 (k0 : Nat) (x3_1 : Int32) (k167_2 : xM → Option (Int32 × xM)) : Nat → xM → Int32 → Int32 → Option (Int32 × xM)
  | 0, _, _, _ => none
  | n_9 + 1, M_8, x2_6, x4_7 => x_g x3_1 (xn 1 (xr 1 k0 0)) (if (M_8 (xr 1 k0 0) x3_1.toNatClampNeg) ≤ x4_7 then (k167_2 M_8) else (x_g ((x3_1 + (1 : Int32)) + ((2 : Int32) * x4_7)) (xn 1 (xr 1 k0 0)) (x_l (M_8 (xr 1 k0 0) ((x3_1 + (1 : Int32)) + ((2 : Int32) * x4_7)).toNatClampNeg) fun x5_15 => x_g ((x3_1 + (2 : Int32)) + ((2 : Int32) * x4_7)) (xn 1 (xr 1 k0 0)) (x_l (M_8 (xr 1 k0 0) ((x3_1 + (2 : Int32)) + ((2 : Int32) * x4_7)).toNatClampNeg) fun x6_17 => x_l (fun (M_20 : xM) (x2_18 : Int32) => x_l (x4_7 + (1 : Int32)) fun x4_21 => fX11_worked_L15 k0 x3_1 k167_2 n_9 M_20 x2_18 x4_21) fun k161_19 => x_l (fun (M_23 : xM) => x_l (fun (M_27 : xM) (z_25 : Int32) => x_g x2_6 (xn 1 (xr 1 k0 19)) (x_l (x_up M_27 (xr 1 k0 19) x2_6.toNatClampNeg z_25) fun M_29 => x_l (x2_6 + (1 : Int32)) fun x2_30 => k161_19 M_29 x2_30)) fun k91_26 => if x5_15 = (1 : Int32) then (k91_26 M_23 x6_17) else (x_g x6_17 (xn 1 (xr 1 k0 20)) (k91_26 M_23 (M_23 (xr 1 k0 20) x6_17.toNatClampNeg)))) fun k68_22 => if x5_15 = (1 : Int32) then (k68_22 M_8) else (if x5_15 = (2 : Int32) then (k68_22 M_8) else (if x5_15 = (3 : Int32) then (x_g (x2_6 - (1 : Int32)) (xn 1 (xr 1 k0 19)) (x_l (fun (M_50 : xM) (z_48 : Int32) => x_g (x2_6 - (1 : Int32)) (xn 1 (xr 1 k0 19)) (x_l (x_up M_50 (xr 1 k0 19) (x2_6 - (1 : Int32)).toNatClampNeg z_48) fun M_52 => k161_19 M_52 x2_6)) fun k127_49 => if (M_8 (xr 1 k0 19) (x2_6 - (1 : Int32)).toNatClampNeg) = 0 then (k127_49 M_8 (1 : Int32)) else (k127_49 M_8 (0 : Int32)))) else (x_l (x2_6 + (-1 : Int32)) fun x2_37 => x_g (x2_37 - (1 : Int32)) (xn 1 (xr 1 k0 19)) (x_g x2_37 (xn 1 (xr 1 k0 19)) (x_b (fX11_both M_8 x5_15 (M_8 (xr 1 k0 19) (x2_37 - (1 : Int32)).toNatClampNeg) (M_8 (xr 1 k0 19) x2_37.toNatClampNeg)) fun v_43 M_41 => x_g (x2_37 - (1 : Int32)) (xn 1 (xr 1 k0 19)) (x_l (x_up M_41 (xr 1 k0 19) (x2_37 - (1 : Int32)).toNatClampNeg v_43) fun M_45 => k161_19 M_45 x2_37))))))))))
def fX11_worked (M : xM) (k0 : Nat) (a1 : Int32) : Option (Int32 × xM) := x_l ((952 : Int32) + ((241 : Int32) * a1)) fun x3_1 => x_l (fun (M_3 : xM) => x_g (0 : Int32) (xn 1 (xr 1 k0 19)) (some ((M_3 (xr 1 k0 19) (0 : Int32).toNatClampNeg), M_3))) fun k167_2 => fX11_worked_L15 k0 x3_1 k167_2 x_FU M (0 : Int32) (0 : Int32)
set_option maxRecDepth 100000 in
set_option maxHeartbeats 4000000 in
theorem mX11_worked (l : Launch) (g : xG) {k0 : Nat} {a1 : Int32} {r : Int32} {M' : xM} (h0 : x_is 1 k0 11) {M : xM} (hf : fX11_worked M k0 a1 = some (r, M')) : x_cI l g 1 yX11_worked cX11_worked 7 .int 1 22 [.ref (g.2.2.1 k0), .int a1] M (fun v N => v = r ∧ N = M') := by
  refine x_stI RX11 (by decide) rfl (Nat.le_of_ble_eq_true rfl) ?_
  intro p e s m args below meth c Q ls C hw ret hl
  obtain ⟨hx, hb, hml, hown, hB, -⟩ := id C
  have hl : lv_has ls 7 [(0, .ref (g.2.2.1 k0)), (1, .int a1)] := hl
  unfold fX11_worked at hf
  refine lv_iconst (v := (0 : Int32)) hx hb dX11_worked_0 (by decide) ?_
  refine lv_istore_n (lv' := [(2, .int (0 : Int32)), (0, .ref (g.2.2.1 k0)), (1, .int a1)]) hx hb dX11_worked_1 rfl hl (by decide) rfl (fun ls hl => ?_)
  refine lv_sipush (v := (952 : Int32)) hx hb dX11_worked_2 (by decide) ?_
  refine lv_sipush (v := (241 : Int32)) hx hb dX11_worked_5 (by decide) ?_
  refine lv_iload_n hx hb dX11_worked_8 rfl (lv_at hl 2 rfl) ?_
  refine lv_imul hx hb dX11_worked_9 ?_
  refine lv_iadd hx hb dX11_worked_10 ?_
  refine lv_topi (fun x3_1 ex3_1 => ?_)
  have hf := x_lE ex3_1 hf
  refine lv_istore_n (lv' := [(3, .int x3_1), (2, .int (0 : Int32)), (0, .ref (g.2.2.1 k0)), (1, .int a1)]) hx hb dX11_worked_11 rfl hl (by decide) rfl (fun ls hl => ?_)
  refine lv_iconst (v := (0 : Int32)) hx hb dX11_worked_12 (by decide) ?_
  refine lv_istore (lv' := [(4, .int (0 : Int32)), (3, .int x3_1), (2, .int (0 : Int32)), (0, .ref (g.2.2.1 k0)), (1, .int a1)]) hx hb dX11_worked_13 hl (by decide) rfl (fun ls hl => ?_)
  obtain ⟨k167_2, ek167_2, hf⟩ := x_jE hf
  have hk167_2 : ∀ (H : Heap) (locs : List Loc) (M_3 : xM)  (ls : Array Slot) , lv_has ls 7 [(0, .ref (g.2.2.1 k0))] → x_w g 1 s H locs M_3 → k167_2 M_3 = some (r, M') → W p l e (x_rm 1 22) s m args below meth c H locs 0 0 Q (F0 m 167 ls []) := by
    intro H locs M_3  ls  hl hw hf
    rw [ek167_2] at hf
    refine lv_aload_n hx hb dX11_worked_167 rfl (lv_at hl 0 rfl) ?_
    refine fg_X11_25 C hw h0 dX11_worked_168 ?_
    have h_4 : x_is 1 (xr 1 k0 19) 12 := x_tm h0 (by decide) rfl
    refine lv_iconst (v := (0 : Int32)) hx hb dX11_worked_171 (by decide) ?_
    obtain ⟨q_5, hf⟩ := x_gE hf
    refine x_ald C hw h_4 q_5 dX11_worked_172 ?_
    exact ret hf dX11_worked_173 hw
  have hL_54 : ∀ (n_9 : Nat) (H : Heap) (locs : List Loc) (M_8 : xM) (x2_6 : Int32) (x4_7 : Int32) (ls : Array Slot) , lv_has ls 7 [(3, .int x3_1), (0, .ref (g.2.2.1 k0)), (2, .int x2_6), (4, .int x4_7)] → x_w g 1 s H locs M_8 → fX11_worked_L15 k0 x3_1 k167_2 n_9 M_8 x2_6 x4_7 = some (r, M') → W p l e (x_rm 1 22) s m args below meth c H locs 0 0 Q (F0 m 15 ls []) := by
    intro n_9
    induction n_9 with
    | zero =>
      intro H locs M_8 x2_6 x4_7 ls  hl hw hf
      rw [fX11_worked_L15] at hf
      cases hf
    | succ n_9 ih_10 =>
      intro H locs M_8 x2_6 x4_7 ls  hl hw hf
      rw [fX11_worked_L15] at hf
      refine lv_iload hx hb dX11_worked_15 (lv_at hl 3 rfl) ?_
      refine lv_aload_n hx hb dX11_worked_17 rfl (lv_at hl 1 rfl) ?_
      refine fg_X11_7 C hw h0 dX11_worked_18 ?_
      have h_11 : x_is 1 (xr 1 k0 0) 12 := x_tm h0 (by decide) rfl
      refine lv_iload_n hx hb dX11_worked_21 rfl (lv_at hl 0 rfl) ?_
      obtain ⟨q_12, hf⟩ := x_gE hf
      refine x_ald C hw h_11 q_12 dX11_worked_22 ?_
      refine lv_icmp_ge (tgt := 167) hx hb dX11_worked_23 (by decide) (fun q_13 => ?_) (fun q_13 => ?_)
      · have hf := x_iP hf q_13
        exact hk167_2 _ _ _ _ (lv_sub hl [1] rfl) hw hf
      · have hf := x_iN hf q_13
        refine lv_aload_n hx hb dX11_worked_26 rfl (lv_at hl 1 rfl) ?_
        refine fg_X11_7 C hw h0 dX11_worked_27 ?_
        refine lv_iload_n hx hb dX11_worked_30 rfl (lv_at hl 0 rfl) ?_
        refine lv_iconst (v := (1 : Int32)) hx hb dX11_worked_31 (by decide) ?_
        refine lv_iadd hx hb dX11_worked_32 ?_
        refine lv_iconst (v := (2 : Int32)) hx hb dX11_worked_33 (by decide) ?_
        refine lv_iload hx hb dX11_worked_34 (lv_at hl 3 rfl) ?_
        refine lv_imul hx hb dX11_worked_36 ?_
        refine lv_iadd hx hb dX11_worked_37 ?_
        obtain ⟨q_14, hf⟩ := x_gE hf
        refine x_ald C hw h_11 q_14 dX11_worked_38 ?_
        refine lv_topi (fun x5_15 ex5_15 => ?_)
        have hf := x_lE ex5_15 hf
        refine lv_istore (lv' := [(5, .int x5_15), (3, .int x3_1), (0, .ref (g.2.2.1 k0)), (2, .int x2_6), (4, .int x4_7)]) hx hb dX11_worked_39 hl (by decide) rfl (fun ls hl => ?_)
        refine lv_aload_n hx hb dX11_worked_41 rfl (lv_at hl 2 rfl) ?_
        refine fg_X11_7 C hw h0 dX11_worked_42 ?_
        refine lv_iload_n hx hb dX11_worked_45 rfl (lv_at hl 1 rfl) ?_
        refine lv_iconst (v := (2 : Int32)) hx hb dX11_worked_46 (by decide) ?_
        refine lv_iadd hx hb dX11_worked_47 ?_
        refine lv_iconst (v := (2 : Int32)) hx hb dX11_worked_48 (by decide) ?_
        refine lv_iload hx hb dX11_worked_49 (lv_at hl 4 rfl) ?_
        refine lv_imul hx hb dX11_worked_51 ?_
        refine lv_iadd hx hb dX11_worked_52 ?_
        obtain ⟨q_16, hf⟩ := x_gE hf
        refine x_ald C hw h_11 q_16 dX11_worked_53 ?_
        refine lv_topi (fun x6_17 ex6_17 => ?_)
        have hf := x_lE ex6_17 hf
        refine lv_istore (lv' := [(6, .int x6_17), (5, .int x5_15), (3, .int x3_1), (0, .ref (g.2.2.1 k0)), (2, .int x2_6), (4, .int x4_7)]) hx hb dX11_worked_54 hl (by decide) rfl (fun ls hl => ?_)
        refine lv_iload hx hb dX11_worked_56 (lv_at hl 1 rfl) ?_
        refine lv_iconst (v := (1 : Int32)) hx hb dX11_worked_58 (by decide) ?_
        obtain ⟨k161_19, ek161_19, hf⟩ := x_jE hf
        have hk161_19 : ∀ (H : Heap) (locs : List Loc) (M_20 : xM) (x2_18 : Int32) (ls : Array Slot) , lv_has ls 7 [(3, .int x3_1), (0, .ref (g.2.2.1 k0)), (4, .int x4_7), (2, .int x2_18)] → x_w g 1 s H locs M_20 → k161_19 M_20 x2_18 = some (r, M') → W p l e (x_rm 1 22) s m args below meth c H locs 0 0 Q (F0 m 161 ls []) := by
          intro H locs M_20 x2_18 ls  hl hw hf
          rw [ek161_19] at hf
          obtain ⟨x4_21, ex4_21⟩ : ∃ z : Int32, z = (x4_7 + (1 : Int32)) := ⟨_, rfl⟩
          have hf := x_lE ex4_21 hf
          refine lv_iinc (v := x4_21) (lv' := [(4, .int x4_21), (3, .int x3_1), (0, .ref (g.2.2.1 k0)), (2, .int x2_18)]) hx hb dX11_worked_161 hl (k := 2) rfl (by rw [ex4_21]; rfl) (by decide) rfl (fun ls hl => ?_)
          refine lv_goto (tgt := 15) hx hb dX11_worked_164 (by decide) ?_
          exact ih_10 _ _ _ _ _ _ (lv_sub hl [1, 2, 3, 0] rfl) hw hf
        obtain ⟨k68_22, ek68_22, hf⟩ := x_jE hf
        have hk68_22 : ∀ (H : Heap) (locs : List Loc) (M_23 : xM)  (ls : Array Slot) , lv_has ls 7 [(6, .int x6_17), (5, .int x5_15), (3, .int x3_1), (0, .ref (g.2.2.1 k0)), (2, .int x2_6), (4, .int x4_7)] → x_w g 1 s H locs M_23 → k68_22 M_23 = some (r, M') → W p l e (x_rm 1 22) s m args below meth c H locs 0 0 Q (F0 m 68 ls []) := by
          intro H locs M_23  ls  hl hw hf
          rw [ek68_22] at hf
          refine lv_aload_n hx hb dX11_worked_68 rfl (lv_at hl 3 rfl) ?_
          refine fg_X11_25 C hw h0 dX11_worked_69 ?_
          have h_24 : x_is 1 (xr 1 k0 19) 12 := x_tm h0 (by decide) rfl
          refine lv_iload_n hx hb dX11_worked_72 rfl (lv_at hl 4 rfl) ?_
          refine lv_iload hx hb dX11_worked_73 (lv_at hl 1 rfl) ?_
          refine lv_iconst (v := (1 : Int32)) hx hb dX11_worked_75 (by decide) ?_
          obtain ⟨k91_26, ek91_26, hf⟩ := x_jE hf
          have hk91_26 : ∀ (H : Heap) (locs : List Loc) (M_27 : xM) (z_25 : Int32) (ls : Array Slot) , lv_has ls 7 [(3, .int x3_1), (0, .ref (g.2.2.1 k0)), (2, .int x2_6), (4, .int x4_7)] → x_w g 1 s H locs M_27 → k91_26 M_27 z_25 = some (r, M') → W p l e (x_rm 1 22) s m args below meth c H locs 0 0 Q (F0 m 91 ls [.int z_25, .int x2_6, .ref (g.2.2.1 (xr 1 k0 19))]) := by
            intro H locs M_27 z_25 ls  hl hw hf
            rw [ek91_26] at hf
            obtain ⟨q_28, hf⟩ := x_gE hf
            refine x_ast C hw h_24 q_28 dX11_worked_91 (fun H locs hw => ?_)
            obtain ⟨M_29, eM_29⟩ : ∃ z, z = (x_up M_27 (xr 1 k0 19) x2_6.toNatClampNeg z_25) := ⟨_, rfl⟩
            rw [← eM_29] at hw
            have hf := x_lE eM_29 hf
            obtain ⟨x2_30, ex2_30⟩ : ∃ z : Int32, z = (x2_6 + (1 : Int32)) := ⟨_, rfl⟩
            have hf := x_lE ex2_30 hf
            refine lv_iinc (v := x2_30) (lv' := [(2, .int x2_30), (3, .int x3_1), (0, .ref (g.2.2.1 k0)), (4, .int x4_7)]) hx hb dX11_worked_92 hl (k := 2) rfl (by rw [ex2_30]; rfl) (by decide) rfl (fun ls hl => ?_)
            refine lv_goto (tgt := 161) hx hb dX11_worked_95 (by decide) ?_
            exact hk161_19 _ _ _ _ _ (lv_sub hl [1, 2, 3, 0] rfl) hw hf
          refine lv_icmp_ne (tgt := 84) hx hb dX11_worked_76 (by decide) (fun q_31 => ?_) (fun q_31 => ?_)
          · have hf := x_iN hf q_31
            refine lv_aload_n hx hb dX11_worked_84 rfl (lv_at hl 3 rfl) ?_
            refine fg_X11_28 C hw h0 dX11_worked_85 ?_
            have h_32 : x_is 1 (xr 1 k0 20) 12 := x_tm h0 (by decide) rfl
            refine lv_iload hx hb dX11_worked_88 (lv_at hl 0 rfl) ?_
            obtain ⟨q_33, hf⟩ := x_gE hf
            refine x_ald C hw h_32 q_33 dX11_worked_90 ?_
            exact hk91_26 _ _ _ _ _ (lv_sub hl [2, 3, 4, 5] rfl) hw hf
          · have hf := x_iP hf q_31
            refine lv_iload hx hb dX11_worked_79 (lv_at hl 0 rfl) ?_
            refine lv_goto (tgt := 91) hx hb dX11_worked_81 (by decide) ?_
            exact hk91_26 _ _ _ _ _ (lv_sub hl [2, 3, 4, 5] rfl) hw hf
        refine lv_icmp_eq (tgt := 68) hx hb dX11_worked_59 (by decide) (fun q_34 => ?_) (fun q_34 => ?_)
        · have hf := x_iP hf q_34
          exact hk68_22 _ _ _ _ (lv_sub hl [0, 1, 2, 3, 4, 5] rfl) hw hf
        · have hf := x_iN hf q_34
          refine lv_iload hx hb dX11_worked_62 (lv_at hl 1 rfl) ?_
          refine lv_iconst (v := (2 : Int32)) hx hb dX11_worked_64 (by decide) ?_
          refine lv_icmp_ne (tgt := 98) hx hb dX11_worked_65 (by decide) (fun q_35 => ?_) (fun q_35 => ?_)
          · have hf := x_iN hf q_35
            refine lv_iload hx hb dX11_worked_98 (lv_at hl 1 rfl) ?_
            refine lv_iconst (v := (3 : Int32)) hx hb dX11_worked_100 (by decide) ?_
            refine lv_icmp_ne (tgt := 131) hx hb dX11_worked_101 (by decide) (fun q_36 => ?_) (fun q_36 => ?_)
            · have hf := x_iN hf q_36
              obtain ⟨x2_37, ex2_37⟩ : ∃ z : Int32, z = (x2_6 + (-1 : Int32)) := ⟨_, rfl⟩
              have hf := x_lE ex2_37 hf
              refine lv_iinc (v := x2_37) (lv' := [(2, .int x2_37), (6, .int x6_17), (5, .int x5_15), (3, .int x3_1), (0, .ref (g.2.2.1 k0)), (4, .int x4_7)]) hx hb dX11_worked_131 hl (k := 4) rfl (by rw [ex2_37]; rfl) (by decide) rfl (fun ls hl => ?_)
              refine lv_aload_n hx hb dX11_worked_134 rfl (lv_at hl 4 rfl) ?_
              refine fg_X11_25 C hw h0 dX11_worked_135 ?_
              have h_38 : x_is 1 (xr 1 k0 19) 12 := x_tm h0 (by decide) rfl
              refine lv_iload_n hx hb dX11_worked_138 rfl (lv_at hl 0 rfl) ?_
              refine lv_iconst (v := (1 : Int32)) hx hb dX11_worked_139 (by decide) ?_
              refine lv_isub hx hb dX11_worked_140 ?_
              refine lv_iload hx hb dX11_worked_141 (lv_at hl 2 rfl) ?_
              refine lv_aload_n hx hb dX11_worked_143 rfl (lv_at hl 4 rfl) ?_
              refine fg_X11_25 C hw h0 dX11_worked_144 ?_
              refine lv_iload_n hx hb dX11_worked_147 rfl (lv_at hl 0 rfl) ?_
              refine lv_iconst (v := (1 : Int32)) hx hb dX11_worked_148 (by decide) ?_
              refine lv_isub hx hb dX11_worked_149 ?_
              obtain ⟨q_39, hf⟩ := x_gE hf
              refine x_ald C hw h_38 q_39 dX11_worked_150 ?_
              refine lv_aload_n hx hb dX11_worked_151 rfl (lv_at hl 4 rfl) ?_
              refine fg_X11_25 C hw h0 dX11_worked_152 ?_
              refine lv_iload_n hx hb dX11_worked_155 rfl (lv_at hl 0 rfl) ?_
              obtain ⟨q_40, hf⟩ := x_gE hf
              refine x_ald C hw h_38 q_40 dX11_worked_156 ?_
              obtain ⟨tv_43, tM_41, c_42, hf⟩ := x_bE hf
              refine x_sI C hw hl.1 [.int x5_15, .int (M_8 (xr 1 k0 19) (x2_37 - (1 : Int32)).toNatClampNeg), .int (M_8 (xr 1 k0 19) x2_37.toNatClampNeg)] [.int (x2_37 - (1 : Int32)), .ref (g.2.2.1 (xr 1 k0 19))] (mX11_both l g c_42) lk_X11_189 (by decide) rfl (Nat.le_of_ble_eq_true rfl) ⟨Nat.zero_le _, Nat.zero_le _⟩ dX11_worked_157 (fun v_43 M_41 H locs hN hw => ?_)
              obtain ⟨rfl, rfl⟩ := hN
              obtain ⟨q_44, hf⟩ := x_gE hf
              refine x_ast C hw h_38 q_44 dX11_worked_160 (fun H locs hw => ?_)
              obtain ⟨M_45, eM_45⟩ : ∃ z, z = (x_up M_41 (xr 1 k0 19) (x2_37 - (1 : Int32)).toNatClampNeg v_43) := ⟨_, rfl⟩
              rw [← eM_45] at hw
              have hf := x_lE eM_45 hf
              exact hk161_19 _ _ _ _ _ (lv_sub hl [3, 4, 5, 0] rfl) hw hf
            · have hf := x_iP hf q_36
              refine lv_aload_n hx hb dX11_worked_104 rfl (lv_at hl 3 rfl) ?_
              refine fg_X11_25 C hw h0 dX11_worked_105 ?_
              have h_46 : x_is 1 (xr 1 k0 19) 12 := x_tm h0 (by decide) rfl
              refine lv_iload_n hx hb dX11_worked_108 rfl (lv_at hl 4 rfl) ?_
              refine lv_iconst (v := (1 : Int32)) hx hb dX11_worked_109 (by decide) ?_
              refine lv_isub hx hb dX11_worked_110 ?_
              refine lv_aload_n hx hb dX11_worked_111 rfl (lv_at hl 3 rfl) ?_
              refine fg_X11_25 C hw h0 dX11_worked_112 ?_
              refine lv_iload_n hx hb dX11_worked_115 rfl (lv_at hl 4 rfl) ?_
              refine lv_iconst (v := (1 : Int32)) hx hb dX11_worked_116 (by decide) ?_
              refine lv_isub hx hb dX11_worked_117 ?_
              obtain ⟨q_47, hf⟩ := x_gE hf
              refine x_ald C hw h_46 q_47 dX11_worked_118 ?_
              obtain ⟨k127_49, ek127_49, hf⟩ := x_jE hf
              have hk127_49 : ∀ (H : Heap) (locs : List Loc) (M_50 : xM) (z_48 : Int32) (ls : Array Slot) , lv_has ls 7 [(3, .int x3_1), (0, .ref (g.2.2.1 k0)), (2, .int x2_6), (4, .int x4_7)] → x_w g 1 s H locs M_50 → k127_49 M_50 z_48 = some (r, M') → W p l e (x_rm 1 22) s m args below meth c H locs 0 0 Q (F0 m 127 ls [.int z_48, .int (x2_6 - (1 : Int32)), .ref (g.2.2.1 (xr 1 k0 19))]) := by
                intro H locs M_50 z_48 ls  hl hw hf
                rw [ek127_49] at hf
                obtain ⟨q_51, hf⟩ := x_gE hf
                refine x_ast C hw h_46 q_51 dX11_worked_127 (fun H locs hw => ?_)
                obtain ⟨M_52, eM_52⟩ : ∃ z, z = (x_up M_50 (xr 1 k0 19) (x2_6 - (1 : Int32)).toNatClampNeg z_48) := ⟨_, rfl⟩
                rw [← eM_52] at hw
                have hf := x_lE eM_52 hf
                refine lv_goto (tgt := 161) hx hb dX11_worked_128 (by decide) ?_
                exact hk161_19 _ _ _ _ _ (lv_sub hl [0, 1, 3, 2] rfl) hw hf
              refine lv_if_ne (tgt := 126) hx hb dX11_worked_119 (by decide) (fun q_53 => ?_) (fun q_53 => ?_)
              · have hf := x_iN hf q_53
                refine lv_iconst (v := (0 : Int32)) hx hb dX11_worked_126 (by decide) ?_
                exact hk127_49 _ _ _ _ _ (lv_sub hl [2, 3, 4, 5] rfl) hw hf
              · have hf := x_iP hf q_53
                refine lv_iconst (v := (1 : Int32)) hx hb dX11_worked_122 (by decide) ?_
                refine lv_goto (tgt := 127) hx hb dX11_worked_123 (by decide) ?_
                exact hk127_49 _ _ _ _ _ (lv_sub hl [2, 3, 4, 5] rfl) hw hf
          · have hf := x_iP hf q_35
            exact hk68_22 _ _ _ _ (lv_sub hl [0, 1, 2, 3, 4, 5] rfl) hw hf
  exact hL_54 _ _ _ _ _ _ _ (lv_sub hl [1, 3, 2, 0] rfl) hw hf
def fX11_worthOf (M : xM) (k0 : Nat) (a1 : Int32) : Option (Int32 × xM) := x_l ((642 : Int32) + ((5 : Int32) * a1)) fun x2_1 => x_g (x2_1 + (3 : Int32)) (xn 1 (xr 1 k0 0)) (x_g (103 : Int32) (xn 1 (xr 1 k0 20)) (x_l (x_up M (xr 1 k0 20) (103 : Int32).toNatClampNeg (M (xr 1 k0 0) (x2_1 + (3 : Int32)).toNatClampNeg)) fun M_6 => x_b (fX11_past M_6 k0 a1) fun v_9 M_7 => x_g (112 : Int32) (xn 1 (xr 1 k0 20)) (x_l (x_up M_7 (xr 1 k0 20) (112 : Int32).toNatClampNeg v_9) fun M_11 => x_g x2_1 (xn 1 (xr 1 k0 0)) (x_l (fun (M_15 : xM) (z_13 : Int32) => x_g (97 : Int32) (xn 1 (xr 1 k0 20)) (x_l (x_up M_15 (xr 1 k0 20) (97 : Int32).toNatClampNeg z_13) fun M_17 => x_g x2_1 (xn 1 (xr 1 k0 0)) (x_g (107 : Int32) (xn 1 (xr 1 k0 20)) (x_l (x_up M_17 (xr 1 k0 20) (107 : Int32).toNatClampNeg (M_17 (xr 1 k0 0) x2_1.toNatClampNeg)) fun M_20 => x_g (x2_1 + (1 : Int32)) (xn 1 (xr 1 k0 0)) (x_b (fX11_isYoung M_20 k0 (M_20 (xr 1 k0 0) (x2_1 + (1 : Int32)).toNatClampNeg)) fun v_24 M_22 => x_l (fun (M_27 : xM) (z_25 : Int32) => x_g (121 : Int32) (xn 1 (xr 1 k0 20)) (x_l (x_up M_27 (xr 1 k0 20) (121 : Int32).toNatClampNeg z_25) fun M_29 => x_b (fX11_worked M_29 k0 (0 : Int32)) fun v_32 M_30 => x_g (3 : Int32) (xn 1 (xr 1 k0 0)) (x_b (fX11_more M_30 v_32 (M_30 (xr 1 k0 0) (3 : Int32).toNatClampNeg)) fun v_36 M_34 => x_g (4 : Int32) (xn 1 (xr 1 k0 0)) (x_b (fX11_less M_34 v_36 (M_34 (xr 1 k0 0) (4 : Int32).toNatClampNeg)) fun v_40 M_38 => some (v_40, M_38))))) fun k96_26 => if v_24 = 0 then (k96_26 M_22 (0 : Int32)) else (k96_26 M_22 (1 : Int32))))))) fun k56_14 => if (M_11 (xr 1 k0 0) x2_1.toNatClampNeg) < (2 : Int32) then (k56_14 M_11 (0 : Int32)) else (k56_14 M_11 (1 : Int32))))))
set_option maxRecDepth 100000 in
set_option maxHeartbeats 4000000 in
theorem mX11_worthOf (l : Launch) (g : xG) {k0 : Nat} {a1 : Int32} {r : Int32} {M' : xM} (h0 : x_is 1 k0 11) {M : xM} (hf : fX11_worthOf M k0 a1 = some (r, M')) : x_cI l g 1 yX11_worthOf cX11_worthOf 3 .int 2 48 [.ref (g.2.2.1 k0), .int a1] M (fun v N => v = r ∧ N = M') := by
  refine x_stI RX11 (by decide) rfl (Nat.le_of_ble_eq_true rfl) ?_
  intro p e s m args below meth c Q ls C hw ret hl
  obtain ⟨hx, hb, hml, hown, hB, -⟩ := id C
  have hl : lv_has ls 3 [(0, .ref (g.2.2.1 k0)), (1, .int a1)] := hl
  unfold fX11_worthOf at hf
  refine lv_sipush (v := (642 : Int32)) hx hb dX11_worthOf_0 (by decide) ?_
  refine lv_iconst (v := (5 : Int32)) hx hb dX11_worthOf_3 (by decide) ?_
  refine lv_iload_n hx hb dX11_worthOf_4 rfl (lv_at hl 1 rfl) ?_
  refine lv_imul hx hb dX11_worthOf_5 ?_
  refine lv_iadd hx hb dX11_worthOf_6 ?_
  refine lv_topi (fun x2_1 ex2_1 => ?_)
  have hf := x_lE ex2_1 hf
  refine lv_istore_n (lv' := [(2, .int x2_1), (0, .ref (g.2.2.1 k0)), (1, .int a1)]) hx hb dX11_worthOf_7 rfl hl (by decide) rfl (fun ls hl => ?_)
  refine lv_aload_n hx hb dX11_worthOf_8 rfl (lv_at hl 1 rfl) ?_
  refine fg_X11_28 C hw h0 dX11_worthOf_9 ?_
  have h_2 : x_is 1 (xr 1 k0 20) 12 := x_tm h0 (by decide) rfl
  refine lv_bipush (v := (103 : Int32)) hx hb dX11_worthOf_12 (by decide) ?_
  refine lv_aload_n hx hb dX11_worthOf_14 rfl (lv_at hl 1 rfl) ?_
  refine fg_X11_7 C hw h0 dX11_worthOf_15 ?_
  have h_3 : x_is 1 (xr 1 k0 0) 12 := x_tm h0 (by decide) rfl
  refine lv_iload_n hx hb dX11_worthOf_18 rfl (lv_at hl 0 rfl) ?_
  refine lv_iconst (v := (3 : Int32)) hx hb dX11_worthOf_19 (by decide) ?_
  refine lv_iadd hx hb dX11_worthOf_20 ?_
  obtain ⟨q_4, hf⟩ := x_gE hf
  refine x_ald C hw h_3 q_4 dX11_worthOf_21 ?_
  obtain ⟨q_5, hf⟩ := x_gE hf
  refine x_ast C hw h_2 q_5 dX11_worthOf_22 (fun H locs hw => ?_)
  obtain ⟨M_6, eM_6⟩ : ∃ z, z = (x_up M (xr 1 k0 20) (103 : Int32).toNatClampNeg (M (xr 1 k0 0) (x2_1 + (3 : Int32)).toNatClampNeg)) := ⟨_, rfl⟩
  rw [← eM_6] at hw
  have hf := x_lE eM_6 hf
  refine lv_aload_n hx hb dX11_worthOf_23 rfl (lv_at hl 1 rfl) ?_
  refine fg_X11_28 C hw h0 dX11_worthOf_24 ?_
  refine lv_bipush (v := (112 : Int32)) hx hb dX11_worthOf_27 (by decide) ?_
  refine lv_aload_n hx hb dX11_worthOf_29 rfl (lv_at hl 1 rfl) ?_
  refine lv_iload_n hx hb dX11_worthOf_30 rfl (lv_at hl 2 rfl) ?_
  obtain ⟨tv_9, tM_7, c_8, hf⟩ := x_bE hf
  refine x_vI C hw hl.1 [.int a1] [.int (112 : Int32), .ref (g.2.2.1 (xr 1 k0 20))] (mX11_past l g h0 c_8) lk_X11_93 h0 (by decide) rfl (by decide) rfl (Nat.le_of_ble_eq_true rfl) ⟨Nat.zero_le _, Nat.zero_le _⟩ dX11_worthOf_31 (fun v_9 M_7 H locs hN hw => ?_)
  obtain ⟨rfl, rfl⟩ := hN
  obtain ⟨q_10, hf⟩ := x_gE hf
  refine x_ast C hw h_2 q_10 dX11_worthOf_34 (fun H locs hw => ?_)
  obtain ⟨M_11, eM_11⟩ : ∃ z, z = (x_up M_7 (xr 1 k0 20) (112 : Int32).toNatClampNeg v_9) := ⟨_, rfl⟩
  rw [← eM_11] at hw
  have hf := x_lE eM_11 hf
  refine lv_aload_n hx hb dX11_worthOf_35 rfl (lv_at hl 1 rfl) ?_
  refine fg_X11_28 C hw h0 dX11_worthOf_36 ?_
  refine lv_bipush (v := (97 : Int32)) hx hb dX11_worthOf_39 (by decide) ?_
  refine lv_aload_n hx hb dX11_worthOf_41 rfl (lv_at hl 1 rfl) ?_
  refine fg_X11_7 C hw h0 dX11_worthOf_42 ?_
  refine lv_iload_n hx hb dX11_worthOf_45 rfl (lv_at hl 0 rfl) ?_
  obtain ⟨q_12, hf⟩ := x_gE hf
  refine x_ald C hw h_3 q_12 dX11_worthOf_46 ?_
  refine lv_iconst (v := (2 : Int32)) hx hb dX11_worthOf_47 (by decide) ?_
  obtain ⟨k56_14, ek56_14, hf⟩ := x_jE hf
  have hk56_14 : ∀ (H : Heap) (locs : List Loc) (M_15 : xM) (z_13 : Int32) (ls : Array Slot) , lv_has ls 3 [(2, .int x2_1), (0, .ref (g.2.2.1 k0))] → x_w g 1 s H locs M_15 → k56_14 M_15 z_13 = some (r, M') → W p l e (x_rm 2 48) s m args below meth c H locs 0 0 Q (F0 m 56 ls [.int z_13, .int (97 : Int32), .ref (g.2.2.1 (xr 1 k0 20))]) := by
    intro H locs M_15 z_13 ls  hl hw hf
    rw [ek56_14] at hf
    obtain ⟨q_16, hf⟩ := x_gE hf
    refine x_ast C hw h_2 q_16 dX11_worthOf_56 (fun H locs hw => ?_)
    obtain ⟨M_17, eM_17⟩ : ∃ z, z = (x_up M_15 (xr 1 k0 20) (97 : Int32).toNatClampNeg z_13) := ⟨_, rfl⟩
    rw [← eM_17] at hw
    have hf := x_lE eM_17 hf
    refine lv_aload_n hx hb dX11_worthOf_57 rfl (lv_at hl 1 rfl) ?_
    refine fg_X11_28 C hw h0 dX11_worthOf_58 ?_
    refine lv_bipush (v := (107 : Int32)) hx hb dX11_worthOf_61 (by decide) ?_
    refine lv_aload_n hx hb dX11_worthOf_63 rfl (lv_at hl 1 rfl) ?_
    refine fg_X11_7 C hw h0 dX11_worthOf_64 ?_
    refine lv_iload_n hx hb dX11_worthOf_67 rfl (lv_at hl 0 rfl) ?_
    obtain ⟨q_18, hf⟩ := x_gE hf
    refine x_ald C hw h_3 q_18 dX11_worthOf_68 ?_
    obtain ⟨q_19, hf⟩ := x_gE hf
    refine x_ast C hw h_2 q_19 dX11_worthOf_69 (fun H locs hw => ?_)
    obtain ⟨M_20, eM_20⟩ : ∃ z, z = (x_up M_17 (xr 1 k0 20) (107 : Int32).toNatClampNeg (M_17 (xr 1 k0 0) x2_1.toNatClampNeg)) := ⟨_, rfl⟩
    rw [← eM_20] at hw
    have hf := x_lE eM_20 hf
    refine lv_aload_n hx hb dX11_worthOf_70 rfl (lv_at hl 1 rfl) ?_
    refine fg_X11_28 C hw h0 dX11_worthOf_71 ?_
    refine lv_bipush (v := (121 : Int32)) hx hb dX11_worthOf_74 (by decide) ?_
    refine lv_aload_n hx hb dX11_worthOf_76 rfl (lv_at hl 1 rfl) ?_
    refine lv_aload_n hx hb dX11_worthOf_77 rfl (lv_at hl 1 rfl) ?_
    refine fg_X11_7 C hw h0 dX11_worthOf_78 ?_
    refine lv_iload_n hx hb dX11_worthOf_81 rfl (lv_at hl 0 rfl) ?_
    refine lv_iconst (v := (1 : Int32)) hx hb dX11_worthOf_82 (by decide) ?_
    refine lv_iadd hx hb dX11_worthOf_83 ?_
    obtain ⟨q_21, hf⟩ := x_gE hf
    refine x_ald C hw h_3 q_21 dX11_worthOf_84 ?_
    obtain ⟨tv_24, tM_22, c_23, hf⟩ := x_bE hf
    refine x_vI C hw hl.1 [.int (M_20 (xr 1 k0 0) (x2_1 + (1 : Int32)).toNatClampNeg)] [.int (121 : Int32), .ref (g.2.2.1 (xr 1 k0 20))] (mX11_isYoung l g h0 c_23) lk_X11_66 h0 (by decide) rfl (by decide) rfl (Nat.le_of_ble_eq_true rfl) ⟨Nat.zero_le _, Nat.zero_le _⟩ dX11_worthOf_85 (fun v_24 M_22 H locs hN hw => ?_)
    obtain ⟨rfl, rfl⟩ := hN
    obtain ⟨k96_26, ek96_26, hf⟩ := x_jE hf
    have hk96_26 : ∀ (H : Heap) (locs : List Loc) (M_27 : xM) (z_25 : Int32) (ls : Array Slot) , lv_has ls 3 [(0, .ref (g.2.2.1 k0))] → x_w g 1 s H locs M_27 → k96_26 M_27 z_25 = some (r, M') → W p l e (x_rm 2 48) s m args below meth c H locs 0 0 Q (F0 m 96 ls [.int z_25, .int (121 : Int32), .ref (g.2.2.1 (xr 1 k0 20))]) := by
      intro H locs M_27 z_25 ls  hl hw hf
      rw [ek96_26] at hf
      obtain ⟨q_28, hf⟩ := x_gE hf
      refine x_ast C hw h_2 q_28 dX11_worthOf_96 (fun H locs hw => ?_)
      obtain ⟨M_29, eM_29⟩ : ∃ z, z = (x_up M_27 (xr 1 k0 20) (121 : Int32).toNatClampNeg z_25) := ⟨_, rfl⟩
      rw [← eM_29] at hw
      have hf := x_lE eM_29 hf
      refine lv_aload_n hx hb dX11_worthOf_97 rfl (lv_at hl 0 rfl) ?_
      refine lv_iconst (v := (0 : Int32)) hx hb dX11_worthOf_98 (by decide) ?_
      obtain ⟨tv_32, tM_30, c_31, hf⟩ := x_bE hf
      refine x_vI C hw hl.1 [.int (0 : Int32)] [] (mX11_worked l g h0 c_31) lk_X11_192 h0 (by decide) rfl (by decide) rfl (Nat.le_of_ble_eq_true rfl) ⟨Nat.zero_le _, Nat.zero_le _⟩ dX11_worthOf_99 (fun v_32 M_30 H locs hN hw => ?_)
      obtain ⟨rfl, rfl⟩ := hN
      refine lv_aload_n hx hb dX11_worthOf_102 rfl (lv_at hl 0 rfl) ?_
      refine fg_X11_7 C hw h0 dX11_worthOf_103 ?_
      refine lv_iconst (v := (3 : Int32)) hx hb dX11_worthOf_106 (by decide) ?_
      obtain ⟨q_33, hf⟩ := x_gE hf
      refine x_ald C hw h_3 q_33 dX11_worthOf_107 ?_
      obtain ⟨tv_36, tM_34, c_35, hf⟩ := x_bE hf
      refine x_sI C hw hl.1 [.int v_32, .int (M_30 (xr 1 k0 0) (3 : Int32).toNatClampNeg)] [] (mX11_more l g c_35) lk_X11_75 (by decide) rfl (Nat.le_of_ble_eq_true rfl) ⟨Nat.zero_le _, Nat.zero_le _⟩ dX11_worthOf_108 (fun v_36 M_34 H locs hN hw => ?_)
      obtain ⟨rfl, rfl⟩ := hN
      refine lv_aload_n hx hb dX11_worthOf_111 rfl (lv_at hl 0 rfl) ?_
      refine fg_X11_7 C hw h0 dX11_worthOf_112 ?_
      refine lv_iconst (v := (4 : Int32)) hx hb dX11_worthOf_115 (by decide) ?_
      obtain ⟨q_37, hf⟩ := x_gE hf
      refine x_ald C hw h_3 q_37 dX11_worthOf_116 ?_
      obtain ⟨tv_40, tM_38, c_39, hf⟩ := x_bE hf
      refine x_sI C hw hl.1 [.int v_36, .int (M_34 (xr 1 k0 0) (4 : Int32).toNatClampNeg)] [] (mX11_less l g c_39) lk_X11_195 (by decide) rfl (Nat.le_of_ble_eq_true rfl) ⟨Nat.zero_le _, Nat.zero_le _⟩ dX11_worthOf_117 (fun v_40 M_38 H locs hN hw => ?_)
      obtain ⟨rfl, rfl⟩ := hN
      exact ret hf dX11_worthOf_120 hw
    refine lv_if_eq (tgt := 95) hx hb dX11_worthOf_88 (by decide) (fun q_41 => ?_) (fun q_41 => ?_)
    · have hf := x_iP hf q_41
      refine lv_iconst (v := (0 : Int32)) hx hb dX11_worthOf_95 (by decide) ?_
      exact hk96_26 _ _ _ _ _ (lv_sub hl [1] rfl) hw hf
    · have hf := x_iN hf q_41
      refine lv_iconst (v := (1 : Int32)) hx hb dX11_worthOf_91 (by decide) ?_
      refine lv_goto (tgt := 96) hx hb dX11_worthOf_92 (by decide) ?_
      exact hk96_26 _ _ _ _ _ (lv_sub hl [1] rfl) hw hf
  refine lv_icmp_lt (tgt := 55) hx hb dX11_worthOf_48 (by decide) (fun q_42 => ?_) (fun q_42 => ?_)
  · have hf := x_iP hf q_42
    refine lv_iconst (v := (0 : Int32)) hx hb dX11_worthOf_55 (by decide) ?_
    exact hk56_14 _ _ _ _ _ (lv_sub hl [0, 1] rfl) hw hf
  · have hf := x_iN hf q_42
    refine lv_iconst (v := (1 : Int32)) hx hb dX11_worthOf_51 (by decide) ?_
    refine lv_goto (tgt := 56) hx hb dX11_worthOf_52 (by decide) ?_
    exact hk56_14 _ _ _ _ _ (lv_sub hl [0, 1] rfl) hw hf
