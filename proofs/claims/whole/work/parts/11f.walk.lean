noncomputable def fX11_room (M : xM) (a1 : Int32) (a2 : Int32) : Option (Int32 × xM) := x_b (fX11_isPerson M a1) fun v_3 M_1 => x_l (fun (M_5 : xM) => some ((-1000000001 : Int32), M_5)) fun k27_4 => if v_3 = 0 then (k27_4 M_1) else (x_b (fX11_in M_1 a2 (0 : Int32) (23 : Int32)) fun v_9 M_7 => if v_9 = 0 then (k27_4 M_7) else (x_b (fX11_roomOf M_7 a1 a2) fun v_13 M_11 => some (v_13, M_11)))
set_option maxRecDepth 100000 in
set_option maxHeartbeats 4000000 in
theorem mX11_room (l : Launch) (g : xG) {a1 : Int32} {a2 : Int32} {r : Int32} {M' : xM}  {M : xM} (hf : fX11_room M a1 a2 = some (r, M')) : x_cI l g 1 yX11_room cX11_room 3 .int 4 102 [.ref (g.2.2.1 0), .int a1, .int a2] M (fun v N => v = r ∧ N = M') := by
  refine x_stI RX11 (by decide) rfl (Nat.le_of_ble_eq_true rfl) ?_
  intro p e s m args below meth c Q ls C hw ret hl
  obtain ⟨hx, hb, hml, hown, hB, -⟩ := id C
  have hl : lv_has ls 3 [(0, .ref (g.2.2.1 0)), (1, .int a1), (2, .int a2)] := hl
  unfold fX11_room at hf
  refine lv_aload_n hx hb dX11_room_0 rfl (lv_at hl 0 rfl) ?_
  refine lv_iload_n hx hb dX11_room_1 rfl (lv_at hl 1 rfl) ?_
  obtain ⟨tv_3, tM_1, c_2, hf⟩ := x_bE hf
  refine x_vI C hw hl.1 [.int a1] [] (mX11_isPerson l g c_2) lk_X11_62 ic1_0 (by decide) rfl (by decide) rfl (Nat.le_of_ble_eq_true rfl) ⟨Nat.zero_le _, Nat.zero_le _⟩ dX11_room_2 (fun v_3 M_1 H locs hN hw => ?_)
  obtain ⟨rfl, rfl⟩ := hN
  obtain ⟨k27_4, ek27_4, hf⟩ := x_jE hf
  have hk27_4 : ∀ (H : Heap) (locs : List Loc) (M_5 : xM)  (ls : Array Slot) , lv_has ls 3 [] → x_w g 1 s H locs M_5 → k27_4 M_5 = some (r, M') → W p l e (x_rm 4 102) s m args below meth c H locs 0 0 Q (F0 m 27 ls []) := by
    intro H locs M_5  ls  hl hw hf
    rw [ek27_4] at hf
    refine lv_ldc hx hb hown (hB _ mk_X11_60) dX11_room_27 ?_
    exact ret hf dX11_room_29 hw
  refine lv_if_eq (tgt := 27) hx hb dX11_room_5 (by decide) (fun q_6 => ?_) (fun q_6 => ?_)
  · have hf := x_iP hf q_6
    exact hk27_4 _ _ _ _ (lv_sub hl [] rfl) hw hf
  · have hf := x_iN hf q_6
    refine lv_iload_n hx hb dX11_room_8 rfl (lv_at hl 2 rfl) ?_
    refine lv_iconst (v := (0 : Int32)) hx hb dX11_room_9 (by decide) ?_
    refine lv_bipush (v := (23 : Int32)) hx hb dX11_room_10 (by decide) ?_
    obtain ⟨tv_9, tM_7, c_8, hf⟩ := x_bE hf
    refine x_sI C hw hl.1 [.int a2, .int (0 : Int32), .int (23 : Int32)] [] (mX11_in l g c_8) lk_X11_56 (by decide) rfl (Nat.le_of_ble_eq_true rfl) ⟨Nat.zero_le _, Nat.zero_le _⟩ dX11_room_12 (fun v_9 M_7 H locs hN hw => ?_)
    obtain ⟨rfl, rfl⟩ := hN
    refine lv_if_eq (tgt := 27) hx hb dX11_room_15 (by decide) (fun q_10 => ?_) (fun q_10 => ?_)
    · have hf := x_iP hf q_10
      exact hk27_4 _ _ _ _ (lv_sub hl [] rfl) hw hf
    · have hf := x_iN hf q_10
      refine lv_aload_n hx hb dX11_room_18 rfl (lv_at hl 0 rfl) ?_
      refine lv_iload_n hx hb dX11_room_19 rfl (lv_at hl 1 rfl) ?_
      refine lv_iload_n hx hb dX11_room_20 rfl (lv_at hl 2 rfl) ?_
      obtain ⟨tv_13, tM_11, c_12, hf⟩ := x_bE hf
      refine x_vI C hw hl.1 [.int a1, .int a2] [] (mX11_roomOf l g c_12) lk_X11_241 ic1_0 (by decide) rfl (by decide) rfl (Nat.le_of_ble_eq_true rfl) ⟨Nat.zero_le _, Nat.zero_le _⟩ dX11_room_21 (fun v_13 M_11 H locs hN hw => ?_)
      obtain ⟨rfl, rfl⟩ := hN
      refine lv_goto (tgt := 29) hx hb dX11_room_24 (by decide) ?_
      exact ret hf dX11_room_29 hw
noncomputable def fX11_tell (M : xM) (a1 : Int32) : Option (Int32 × xM) := if (M 0 27) = (30 : Int32) then (some ((-1000000003 : Int32), M)) else (x_g (M 0 27) 30 (x_l (x_up M 12 (M 0 27).toNatClampNeg a1) fun M_3 => x_l (x_up M_3 0 27 ((M_3 0 27) + (1 : Int32))) fun M_4 => some ((M_4 0 27), M_4)))
set_option maxRecDepth 100000 in
set_option maxHeartbeats 4000000 in
theorem mX11_tell (l : Launch) (g : xG) {a1 : Int32} {r : Int32} {M' : xM}  {M : xM} (hf : fX11_tell M a1 = some (r, M')) : x_cI l g 1 yX11_tell cX11_tell 2 .int 0 0 [.ref (g.2.2.1 0), .int a1] M (fun v N => v = r ∧ N = M') := by
  refine x_stI RX11 (by decide) rfl (Nat.le_of_ble_eq_true rfl) ?_
  intro p e s m args below meth c Q ls C hw ret hl
  obtain ⟨hx, hb, hml, hown, hB, -⟩ := id C
  have hl : lv_has ls 2 [(0, .ref (g.2.2.1 0)), (1, .int a1)] := hl
  unfold fX11_tell at hf
  refine lv_aload_n hx hb dX11_tell_0 rfl (lv_at hl 0 rfl) ?_
  refine fg_X11_260 C hw ic1_0 dX11_tell_1 ?_
  refine lv_bipush (v := (30 : Int32)) hx hb dX11_tell_4 (by decide) ?_
  refine lv_icmp_ne (tgt := 12) hx hb dX11_tell_6 (by decide) (fun q_1 => ?_) (fun q_1 => ?_)
  · have hf := x_iN hf q_1
    refine lv_aload_n hx hb dX11_tell_12 rfl (lv_at hl 0 rfl) ?_
    refine fg_X11_43 (k2 := 12) C hw ic1_0 rfl dX11_tell_13 ?_
    refine lv_aload_n hx hb dX11_tell_16 rfl (lv_at hl 0 rfl) ?_
    refine fg_X11_260 C hw ic1_0 dX11_tell_17 ?_
    refine lv_iload_n hx hb dX11_tell_20 rfl (lv_at hl 1 rfl) ?_
    obtain ⟨q_2, hf⟩ := x_gE hf
    refine x_ast C hw ic1_12 q_2 rfl dX11_tell_21 (fun H locs hw => ?_)
    obtain ⟨M_3, eM_3⟩ : ∃ z, z = (x_up M 12 (M 0 27).toNatClampNeg a1) := ⟨_, rfl⟩
    rw [← eM_3] at hw
    have hf := x_lE eM_3 hf
    refine lv_aload_n hx hb dX11_tell_22 rfl (lv_at hl 0 rfl) ?_
    refine lv_dup hx hb dX11_tell_23 rfl ?_
    refine fg_X11_260 C hw ic1_0 dX11_tell_24 ?_
    refine lv_iconst (v := (1 : Int32)) hx hb dX11_tell_27 (by decide) ?_
    refine lv_iadd hx hb dX11_tell_28 ?_
    refine fp_X11_260 C hw ic1_0 dX11_tell_29 (fun H locs hw => ?_)
    obtain ⟨M_4, eM_4⟩ : ∃ z, z = (x_up M_3 0 27 ((M_3 0 27) + (1 : Int32))) := ⟨_, rfl⟩
    rw [← eM_4] at hw
    have hf := x_lE eM_4 hf
    refine lv_aload_n hx hb dX11_tell_32 rfl (lv_at hl 0 rfl) ?_
    refine fg_X11_260 C hw ic1_0 dX11_tell_33 ?_
    exact ret hf dX11_tell_36 hw
  · have hf := x_iP hf q_1
    refine lv_ldc hx hb hown (hB _ mk_X11_61) dX11_tell_9 ?_
    exact ret hf dX11_tell_11 hw
noncomputable def fX11_check_L83 (x2_1 : Int32) (x4_13 : Int32) (k124_16 : xM → Option (Int32 × xM)) (k113_20 : xM → Int32 → Option (Int32 × xM)) : Nat → xM → Int32 → Option (Int32 × xM)
  | 0, _, _ => none
  | n_24 + 1, M_23, x5_22 => if x2_1 ≤ x5_22 then (k124_16 M_23) else (if x4_13 ≤ x5_22 then (k113_20 M_23 x5_22) else (x_g x5_22 30 (x_g x5_22 24 (if (M_23 12 x5_22.toNatClampNeg) = (M_23 11 x5_22.toNatClampNeg) then (x_l (x5_22 + (1 : Int32)) fun x5_31 => fX11_check_L83 x2_1 x4_13 k124_16 k113_20 n_24 M_23 x5_31) else (k113_20 M_23 x5_22)))))
noncomputable def fX11_check_L46 (k80_14 : xM → Int32 → Option (Int32 × xM)) : Nat → xM → Int32 → Int32 → Option (Int32 × xM)
  | 0, _, _, _ => none
  | n_36 + 1, M_35, x4_33, x5_34 => if (24 : Int32) ≤ x5_34 then (k80_14 M_35 x4_33) else (x_g x5_34 24 (x_l (fun (M_42 : xM) (z_40 : Int32) => x_l (x5_34 + (1 : Int32)) fun x5_43 => fX11_check_L46 k80_14 n_36 M_42 z_40 x5_43) fun k72_41 => if (M_35 11 x5_34.toNatClampNeg) ≤ 0 then (k72_41 M_35 x4_33) else (k72_41 M_35 (x5_34 + (1 : Int32)))))
noncomputable def fX11_check (M : xM) (a1 : Int32) : Option (Int32 × xM) := x_l (M 0 27) fun x2_1 => x_l (x_up M 0 27 (0 : Int32)) fun M_2 => x_b (fX11_isPerson M_2 a1) fun v_5 M_3 => if v_5 = 0 then (some ((-1000000001 : Int32), M_3)) else (x_b (fX11_findLevel M_3 a1) fun v_9 M_7 => if v_9 = (-1 : Int32) then (some ((-1000000002 : Int32), M_7)) else (x_v (fX11_layPays M_7 v_9) fun M_11 => x_l (fun (M_15 : xM) (x4_13 : Int32) => x_l (fun (M_17 : xM) => if x4_13 ≤ x2_1 then (some ((0 : Int32), M_17)) else (some (((1 : Int32) + x2_1), M_17))) fun k124_16 => x_l (fun (M_21 : xM) (x5_19 : Int32) => some (((1 : Int32) + x5_19), M_21)) fun k113_20 => fX11_check_L83 x2_1 x4_13 k124_16 k113_20 x_FU M_15 (0 : Int32)) fun k80_14 => fX11_check_L46 k80_14 x_FU M_11 (0 : Int32) (0 : Int32)))
set_option maxRecDepth 100000 in
set_option maxHeartbeats 4000000 in
theorem mX11_check (l : Launch) (g : xG) {a1 : Int32} {r : Int32} {M' : xM}  {M : xM} (hf : fX11_check M a1 = some (r, M')) : x_cI l g 1 yX11_check cX11_check 6 .int 6 150 [.ref (g.2.2.1 0), .int a1] M (fun v N => v = r ∧ N = M') := by
  refine x_stI RX11 (by decide) rfl (Nat.le_of_ble_eq_true rfl) ?_
  intro p e s m args below meth c Q ls C hw ret hl
  obtain ⟨hx, hb, hml, hown, hB, -⟩ := id C
  have hl : lv_has ls 6 [(0, .ref (g.2.2.1 0)), (1, .int a1)] := hl
  unfold fX11_check at hf
  refine lv_aload_n hx hb dX11_check_0 rfl (lv_at hl 0 rfl) ?_
  refine fg_X11_260 C hw ic1_0 dX11_check_1 ?_
  refine lv_topi (fun x2_1 ex2_1 => ?_)
  have hf := x_lE ex2_1 hf
  refine lv_istore_n (lv' := [(2, .int x2_1), (0, .ref (g.2.2.1 0)), (1, .int a1)]) hx hb dX11_check_4 rfl hl (by decide) rfl (fun ls hl => ?_)
  refine lv_aload_n hx hb dX11_check_5 rfl (lv_at hl 1 rfl) ?_
  refine lv_iconst (v := (0 : Int32)) hx hb dX11_check_6 (by decide) ?_
  refine fp_X11_260 C hw ic1_0 dX11_check_7 (fun H locs hw => ?_)
  obtain ⟨M_2, eM_2⟩ : ∃ z, z = (x_up M 0 27 (0 : Int32)) := ⟨_, rfl⟩
  rw [← eM_2] at hw
  have hf := x_lE eM_2 hf
  refine lv_aload_n hx hb dX11_check_10 rfl (lv_at hl 1 rfl) ?_
  refine lv_iload_n hx hb dX11_check_11 rfl (lv_at hl 2 rfl) ?_
  obtain ⟨tv_5, tM_3, c_4, hf⟩ := x_bE hf
  refine x_vI C hw hl.1 [.int a1] [] (mX11_isPerson l g c_4) lk_X11_62 ic1_0 (by decide) rfl (by decide) rfl (Nat.le_of_ble_eq_true rfl) ⟨Nat.zero_le _, Nat.zero_le _⟩ dX11_check_12 (fun v_5 M_3 H locs hN hw => ?_)
  obtain ⟨rfl, rfl⟩ := hN
  refine lv_if_ne (tgt := 21) hx hb dX11_check_15 (by decide) (fun q_6 => ?_) (fun q_6 => ?_)
  · have hf := x_iN hf q_6
    refine lv_aload_n hx hb dX11_check_21 rfl (lv_at hl 1 rfl) ?_
    refine lv_iload_n hx hb dX11_check_22 rfl (lv_at hl 2 rfl) ?_
    obtain ⟨tv_9, tM_7, c_8, hf⟩ := x_bE hf
    refine x_vI C hw hl.1 [.int a1] [] (mX11_findLevel l g c_8) lk_X11_254 ic1_0 (by decide) rfl (by decide) rfl (Nat.le_of_ble_eq_true rfl) ⟨Nat.zero_le _, Nat.zero_le _⟩ dX11_check_23 (fun v_9 M_7 H locs hN hw => ?_)
    obtain ⟨rfl, rfl⟩ := hN
    refine lv_istore_n (lv' := [(3, .int v_9), (2, .int x2_1), (0, .ref (g.2.2.1 0)), (1, .int a1)]) hx hb dX11_check_26 rfl hl (by decide) rfl (fun ls hl => ?_)
    refine lv_iload_n hx hb dX11_check_27 rfl (lv_at hl 0 rfl) ?_
    refine lv_iconst (v := (-1 : Int32)) hx hb dX11_check_28 (by decide) ?_
    refine lv_icmp_ne (tgt := 35) hx hb dX11_check_29 (by decide) (fun q_10 => ?_) (fun q_10 => ?_)
    · have hf := x_iN hf q_10
      refine lv_aload_n hx hb dX11_check_35 rfl (lv_at hl 2 rfl) ?_
      refine lv_iload_n hx hb dX11_check_36 rfl (lv_at hl 0 rfl) ?_
      obtain ⟨tM_11, c_12, hf⟩ := x_vE hf
      refine x_vV C hw hl.1 [.int v_9] [] (mX11_layPays l g c_12) lk_X11_257 ic1_0 (by decide) rfl (by decide) rfl (Nat.le_of_ble_eq_true rfl) ⟨Nat.zero_le _, Nat.zero_le _⟩ dX11_check_37 (fun M_11 H locs hN hw => ?_)
      obtain rfl := hN
      refine lv_iconst (v := (0 : Int32)) hx hb dX11_check_40 (by decide) ?_
      refine lv_istore (lv' := [(4, .int (0 : Int32)), (3, .int v_9), (2, .int x2_1), (0, .ref (g.2.2.1 0)), (1, .int a1)]) hx hb dX11_check_41 hl (by decide) rfl (fun ls hl => ?_)
      refine lv_iconst (v := (0 : Int32)) hx hb dX11_check_43 (by decide) ?_
      refine lv_istore (lv' := [(5, .int (0 : Int32)), (4, .int (0 : Int32)), (3, .int v_9), (2, .int x2_1), (0, .ref (g.2.2.1 0)), (1, .int a1)]) hx hb dX11_check_44 hl (by decide) rfl (fun ls hl => ?_)
      obtain ⟨k80_14, ek80_14, hf⟩ := x_jE hf
      have hk80_14 : ∀ (H : Heap) (locs : List Loc) (M_15 : xM) (x4_13 : Int32) (ls : Array Slot) , lv_has ls 6 [(2, .int x2_1), (0, .ref (g.2.2.1 0)), (4, .int x4_13)] → x_w g 1 s H locs M_15 → k80_14 M_15 x4_13 = some (r, M') → W p l e (x_rm 6 150) s m args below meth c H locs 0 0 Q (F0 m 80 ls []) := by
        intro H locs M_15 x4_13 ls  hl hw hf
        rw [ek80_14] at hf
        refine lv_iconst (v := (0 : Int32)) hx hb dX11_check_80 (by decide) ?_
        refine lv_istore (lv' := [(5, .int (0 : Int32)), (2, .int x2_1), (0, .ref (g.2.2.1 0)), (4, .int x4_13)]) hx hb dX11_check_81 hl (by decide) rfl (fun ls hl => ?_)
        obtain ⟨k124_16, ek124_16, hf⟩ := x_jE hf
        have hk124_16 : ∀ (H : Heap) (locs : List Loc) (M_17 : xM)  (ls : Array Slot) , lv_has ls 6 [(2, .int x2_1), (4, .int x4_13)] → x_w g 1 s H locs M_17 → k124_16 M_17 = some (r, M') → W p l e (x_rm 6 150) s m args below meth c H locs 0 0 Q (F0 m 124 ls []) := by
          intro H locs M_17  ls  hl hw hf
          rw [ek124_16] at hf
          refine lv_iload_n hx hb dX11_check_124 rfl (lv_at hl 0 rfl) ?_
          refine lv_iload hx hb dX11_check_125 (lv_at hl 1 rfl) ?_
          refine lv_icmp_ge (tgt := 136) hx hb dX11_check_127 (by decide) (fun q_18 => ?_) (fun q_18 => ?_)
          · have hf := x_iP hf q_18
            refine lv_iconst (v := (0 : Int32)) hx hb dX11_check_136 (by decide) ?_
            exact ret hf dX11_check_137 hw
          · have hf := x_iN hf q_18
            refine lv_iconst (v := (1 : Int32)) hx hb dX11_check_130 (by decide) ?_
            refine lv_iload_n hx hb dX11_check_131 rfl (lv_at hl 0 rfl) ?_
            refine lv_iadd hx hb dX11_check_132 ?_
            refine lv_goto (tgt := 137) hx hb dX11_check_133 (by decide) ?_
            exact ret hf dX11_check_137 hw
        obtain ⟨k113_20, ek113_20, hf⟩ := x_jE hf
        have hk113_20 : ∀ (H : Heap) (locs : List Loc) (M_21 : xM) (x5_19 : Int32) (ls : Array Slot) , lv_has ls 6 [(5, .int x5_19)] → x_w g 1 s H locs M_21 → k113_20 M_21 x5_19 = some (r, M') → W p l e (x_rm 6 150) s m args below meth c H locs 0 0 Q (F0 m 113 ls []) := by
          intro H locs M_21 x5_19 ls  hl hw hf
          rw [ek113_20] at hf
          refine lv_iconst (v := (1 : Int32)) hx hb dX11_check_113 (by decide) ?_
          refine lv_iload hx hb dX11_check_114 (lv_at hl 0 rfl) ?_
          refine lv_iadd hx hb dX11_check_116 ?_
          exact ret hf dX11_check_117 hw
        have hL_32 : ∀ (n_24 : Nat) (H : Heap) (locs : List Loc) (M_23 : xM) (x5_22 : Int32) (ls : Array Slot) , lv_has ls 6 [(2, .int x2_1), (0, .ref (g.2.2.1 0)), (4, .int x4_13), (5, .int x5_22)] → x_w g 1 s H locs M_23 → fX11_check_L83 x2_1 x4_13 k124_16 k113_20 n_24 M_23 x5_22 = some (r, M') → W p l e (x_rm 6 150) s m args below meth c H locs 0 0 Q (F0 m 83 ls []) := by
          intro n_24
          induction n_24 with
          | zero =>
            intro H locs M_23 x5_22 ls  hl hw hf
            rw [fX11_check_L83] at hf
            cases hf
          | succ n_24 ih_25 =>
            intro H locs M_23 x5_22 ls  hl hw hf
            rw [fX11_check_L83] at hf
            refine lv_iload hx hb dX11_check_83 (lv_at hl 3 rfl) ?_
            refine lv_iload_n hx hb dX11_check_85 rfl (lv_at hl 0 rfl) ?_
            refine lv_icmp_ge (tgt := 124) hx hb dX11_check_86 (by decide) (fun q_26 => ?_) (fun q_26 => ?_)
            · have hf := x_iP hf q_26
              exact hk124_16 _ _ _ _ (lv_sub hl [0, 2] rfl) hw hf
            · have hf := x_iN hf q_26
              refine lv_iload hx hb dX11_check_89 (lv_at hl 3 rfl) ?_
              refine lv_iload hx hb dX11_check_91 (lv_at hl 2 rfl) ?_
              refine lv_icmp_ge (tgt := 113) hx hb dX11_check_93 (by decide) (fun q_27 => ?_) (fun q_27 => ?_)
              · have hf := x_iP hf q_27
                exact hk113_20 _ _ _ _ _ (lv_sub hl [3] rfl) hw hf
              · have hf := x_iN hf q_27
                refine lv_aload_n hx hb dX11_check_96 rfl (lv_at hl 1 rfl) ?_
                refine fg_X11_43 (k2 := 12) C hw ic1_0 rfl dX11_check_97 ?_
                refine lv_iload hx hb dX11_check_100 (lv_at hl 3 rfl) ?_
                obtain ⟨q_28, hf⟩ := x_gE hf
                refine x_ald C hw ic1_12 q_28 rfl dX11_check_102 ?_
                refine lv_aload_n hx hb dX11_check_103 rfl (lv_at hl 1 rfl) ?_
                refine fg_X11_40 (k2 := 11) C hw ic1_0 rfl dX11_check_104 ?_
                refine lv_iload hx hb dX11_check_107 (lv_at hl 3 rfl) ?_
                obtain ⟨q_29, hf⟩ := x_gE hf
                refine x_ald C hw ic1_11 q_29 rfl dX11_check_109 ?_
                refine lv_icmp_eq (tgt := 118) hx hb dX11_check_110 (by decide) (fun q_30 => ?_) (fun q_30 => ?_)
                · have hf := x_iP hf q_30
                  obtain ⟨x5_31, ex5_31⟩ : ∃ z : Int32, z = (x5_22 + (1 : Int32)) := ⟨_, rfl⟩
                  have hf := x_lE ex5_31 hf
                  refine lv_iinc (v := x5_31) (lv' := [(5, .int x5_31), (2, .int x2_1), (0, .ref (g.2.2.1 0)), (4, .int x4_13)]) hx hb dX11_check_118 hl (k := 3) rfl (by rw [ex5_31]; rfl) (by decide) rfl (fun ls hl => ?_)
                  refine lv_goto (tgt := 83) hx hb dX11_check_121 (by decide) ?_
                  exact ih_25 _ _ _ _ _ (lv_sub hl [1, 2, 3, 0] rfl) hw hf
                · have hf := x_iN hf q_30
                  exact hk113_20 _ _ _ _ _ (lv_sub hl [3] rfl) hw hf
        exact hL_32 _ _ _ _ _ _ (lv_sub hl [1, 2, 3, 0] rfl) hw hf
      have hL_45 : ∀ (n_36 : Nat) (H : Heap) (locs : List Loc) (M_35 : xM) (x4_33 : Int32) (x5_34 : Int32) (ls : Array Slot) , lv_has ls 6 [(2, .int x2_1), (0, .ref (g.2.2.1 0)), (4, .int x4_33), (5, .int x5_34)] → x_w g 1 s H locs M_35 → fX11_check_L46 k80_14 n_36 M_35 x4_33 x5_34 = some (r, M') → W p l e (x_rm 6 150) s m args below meth c H locs 0 0 Q (F0 m 46 ls []) := by
        intro n_36
        induction n_36 with
        | zero =>
          intro H locs M_35 x4_33 x5_34 ls  hl hw hf
          rw [fX11_check_L46] at hf
          cases hf
        | succ n_36 ih_37 =>
          intro H locs M_35 x4_33 x5_34 ls  hl hw hf
          rw [fX11_check_L46] at hf
          refine lv_iload hx hb dX11_check_46 (lv_at hl 3 rfl) ?_
          refine lv_bipush (v := (24 : Int32)) hx hb dX11_check_48 (by decide) ?_
          refine lv_icmp_ge (tgt := 80) hx hb dX11_check_50 (by decide) (fun q_38 => ?_) (fun q_38 => ?_)
          · have hf := x_iP hf q_38
            exact hk80_14 _ _ _ _ _ (lv_sub hl [0, 1, 2] rfl) hw hf
          · have hf := x_iN hf q_38
            refine lv_aload_n hx hb dX11_check_53 rfl (lv_at hl 1 rfl) ?_
            refine fg_X11_40 (k2 := 11) C hw ic1_0 rfl dX11_check_54 ?_
            refine lv_iload hx hb dX11_check_57 (lv_at hl 3 rfl) ?_
            obtain ⟨q_39, hf⟩ := x_gE hf
            refine x_ald C hw ic1_11 q_39 rfl dX11_check_59 ?_
            obtain ⟨k72_41, ek72_41, hf⟩ := x_jE hf
            have hk72_41 : ∀ (H : Heap) (locs : List Loc) (M_42 : xM) (z_40 : Int32) (ls : Array Slot) , lv_has ls 6 [(2, .int x2_1), (0, .ref (g.2.2.1 0)), (5, .int x5_34)] → x_w g 1 s H locs M_42 → k72_41 M_42 z_40 = some (r, M') → W p l e (x_rm 6 150) s m args below meth c H locs 0 0 Q (F0 m 72 ls [.int z_40]) := by
              intro H locs M_42 z_40 ls  hl hw hf
              rw [ek72_41] at hf
              refine lv_istore (lv' := [(4, .int z_40), (2, .int x2_1), (0, .ref (g.2.2.1 0)), (5, .int x5_34)]) hx hb dX11_check_72 hl (by decide) rfl (fun ls hl => ?_)
              obtain ⟨x5_43, ex5_43⟩ : ∃ z : Int32, z = (x5_34 + (1 : Int32)) := ⟨_, rfl⟩
              have hf := x_lE ex5_43 hf
              refine lv_iinc (v := x5_43) (lv' := [(5, .int x5_43), (4, .int z_40), (2, .int x2_1), (0, .ref (g.2.2.1 0))]) hx hb dX11_check_74 hl (k := 3) rfl (by rw [ex5_43]; rfl) (by decide) rfl (fun ls hl => ?_)
              refine lv_goto (tgt := 46) hx hb dX11_check_77 (by decide) ?_
              exact ih_37 _ _ _ _ _ _ (lv_sub hl [2, 3, 1, 0] rfl) hw hf
            refine lv_if_le (tgt := 70) hx hb dX11_check_60 (by decide) (fun q_44 => ?_) (fun q_44 => ?_)
            · have hf := x_iP hf q_44
              refine lv_iload hx hb dX11_check_70 (lv_at hl 2 rfl) ?_
              exact hk72_41 _ _ _ _ _ (lv_sub hl [0, 1, 3] rfl) hw hf
            · have hf := x_iN hf q_44
              refine lv_iload hx hb dX11_check_63 (lv_at hl 3 rfl) ?_
              refine lv_iconst (v := (1 : Int32)) hx hb dX11_check_65 (by decide) ?_
              refine lv_iadd hx hb dX11_check_66 ?_
              refine lv_goto (tgt := 72) hx hb dX11_check_67 (by decide) ?_
              exact hk72_41 _ _ _ _ _ (lv_sub hl [0, 1, 3] rfl) hw hf
      exact hL_45 _ _ _ _ _ _ _ (lv_sub hl [3, 4, 1, 0] rfl) hw hf
    · have hf := x_iP hf q_10
      refine lv_ldc hx hb hown (hB _ mk_X11_69) dX11_check_32 ?_
      exact ret hf dX11_check_34 hw
  · have hf := x_iP hf q_6
    refine lv_ldc hx hb hown (hB _ mk_X11_60) dX11_check_18 ?_
    exact ret hf dX11_check_20 hw
noncomputable def fX11_weights_L4 (a1 : Int32) : Nat → xM → Int32 → Int32 → Option (Int32 × xM)
  | 0, _, _, _ => none
  | n_4 + 1, M_3, x2_1, x3_2 => if (M_3 1 19) ≤ x3_2 then (some (x2_1, M_3)) else (x_g (((642 : Int32) + ((5 : Int32) * x3_2)) + (4 : Int32)) 1675 (x_l (fun (M_11 : xM) (z_9 : Int32) => x_l (x2_1 + z_9) fun x2_12 => x_l (x3_2 + (1 : Int32)) fun x3_13 => fX11_weights_L4 a1 n_4 M_11 x2_12 x3_13) fun k52_10 => if (M_3 1 (((642 : Int32) + ((5 : Int32) * x3_2)) + (4 : Int32)).toNatClampNeg) = a1 then (x_g (((642 : Int32) + ((5 : Int32) * x3_2)) + (3 : Int32)) 1675 (k52_10 M_3 (M_3 1 (((642 : Int32) + ((5 : Int32) * x3_2)) + (3 : Int32)).toNatClampNeg))) else (k52_10 M_3 (0 : Int32))))
noncomputable def fX11_weights (M : xM) (a1 : Int32) : Option (Int32 × xM) := fX11_weights_L4 a1 x_FU M (0 : Int32) (0 : Int32)
set_option maxRecDepth 100000 in
set_option maxHeartbeats 4000000 in
theorem mX11_weights (l : Launch) (g : xG) {a1 : Int32} {r : Int32} {M' : xM}  {M : xM} (hf : fX11_weights M a1 = some (r, M')) : x_cI l g 1 yX11_weights cX11_weights 4 .int 0 0 [.ref (g.2.2.1 0), .int a1] M (fun v N => v = r ∧ N = M') := by
  refine x_stI RX11 (by decide) rfl (Nat.le_of_ble_eq_true rfl) ?_
  intro p e s m args below meth c Q ls C hw ret hl
  obtain ⟨hx, hb, hml, hown, hB, -⟩ := id C
  have hl : lv_has ls 4 [(0, .ref (g.2.2.1 0)), (1, .int a1)] := hl
  unfold fX11_weights at hf
  refine lv_iconst (v := (0 : Int32)) hx hb dX11_weights_0 (by decide) ?_
  refine lv_istore_n (lv' := [(2, .int (0 : Int32)), (0, .ref (g.2.2.1 0)), (1, .int a1)]) hx hb dX11_weights_1 rfl hl (by decide) rfl (fun ls hl => ?_)
  refine lv_iconst (v := (0 : Int32)) hx hb dX11_weights_2 (by decide) ?_
  refine lv_istore_n (lv' := [(3, .int (0 : Int32)), (2, .int (0 : Int32)), (0, .ref (g.2.2.1 0)), (1, .int a1)]) hx hb dX11_weights_3 rfl hl (by decide) rfl (fun ls hl => ?_)
  have hL_16 : ∀ (n_4 : Nat) (H : Heap) (locs : List Loc) (M_3 : xM) (x2_1 : Int32) (x3_2 : Int32) (ls : Array Slot) , lv_has ls 4 [(0, .ref (g.2.2.1 0)), (1, .int a1), (2, .int x2_1), (3, .int x3_2)] → x_w g 1 s H locs M_3 → fX11_weights_L4 a1 n_4 M_3 x2_1 x3_2 = some (r, M') → W p l e (x_rm 0 0) s m args below meth c H locs 0 0 Q (F0 m 4 ls []) := by
    intro n_4
    induction n_4 with
    | zero =>
      intro H locs M_3 x2_1 x3_2 ls  hl hw hf
      rw [fX11_weights_L4] at hf
      cases hf
    | succ n_4 ih_5 =>
      intro H locs M_3 x2_1 x3_2 ls  hl hw hf
      rw [fX11_weights_L4] at hf
      refine lv_iload_n hx hb dX11_weights_4 rfl (lv_at hl 3 rfl) ?_
      refine lv_aload_n hx hb dX11_weights_5 rfl (lv_at hl 0 rfl) ?_
      refine fg_X11_7 (k2 := 1) C hw ic1_0 rfl dX11_weights_6 ?_
      refine lv_bipush (v := (19 : Int32)) hx hb dX11_weights_9 (by decide) ?_
      refine x_ald (j := 19) C hw ic1_1 (x_inl rfl) rfl dX11_weights_11 ?_
      refine lv_icmp_ge (tgt := 60) hx hb dX11_weights_12 (by decide) (fun q_7 => ?_) (fun q_7 => ?_)
      · have hf := x_iP hf q_7
        refine lv_iload_n hx hb dX11_weights_60 rfl (lv_at hl 2 rfl) ?_
        exact ret hf dX11_weights_61 hw
      · have hf := x_iN hf q_7
        refine lv_iload_n hx hb dX11_weights_15 rfl (lv_at hl 2 rfl) ?_
        refine lv_aload_n hx hb dX11_weights_16 rfl (lv_at hl 0 rfl) ?_
        refine fg_X11_7 (k2 := 1) C hw ic1_0 rfl dX11_weights_17 ?_
        refine lv_sipush (v := (642 : Int32)) hx hb dX11_weights_20 (by decide) ?_
        refine lv_iconst (v := (5 : Int32)) hx hb dX11_weights_23 (by decide) ?_
        refine lv_iload_n hx hb dX11_weights_24 rfl (lv_at hl 3 rfl) ?_
        refine lv_imul hx hb dX11_weights_25 ?_
        refine lv_iadd hx hb dX11_weights_26 ?_
        refine lv_iconst (v := (4 : Int32)) hx hb dX11_weights_27 (by decide) ?_
        refine lv_iadd hx hb dX11_weights_28 ?_
        obtain ⟨q_8, hf⟩ := x_gE hf
        refine x_ald C hw ic1_1 q_8 rfl dX11_weights_29 ?_
        refine lv_iload_n hx hb dX11_weights_30 rfl (lv_at hl 1 rfl) ?_
        obtain ⟨k52_10, ek52_10, hf⟩ := x_jE hf
        have hk52_10 : ∀ (H : Heap) (locs : List Loc) (M_11 : xM) (z_9 : Int32) (ls : Array Slot) , lv_has ls 4 [(0, .ref (g.2.2.1 0)), (1, .int a1), (3, .int x3_2)] → x_w g 1 s H locs M_11 → k52_10 M_11 z_9 = some (r, M') → W p l e (x_rm 0 0) s m args below meth c H locs 0 0 Q (F0 m 52 ls [.int z_9, .int x2_1]) := by
          intro H locs M_11 z_9 ls  hl hw hf
          rw [ek52_10] at hf
          refine lv_iadd hx hb dX11_weights_52 ?_
          refine lv_topi (fun x2_12 ex2_12 => ?_)
          have hf := x_lE ex2_12 hf
          refine lv_istore_n (lv' := [(2, .int x2_12), (0, .ref (g.2.2.1 0)), (1, .int a1), (3, .int x3_2)]) hx hb dX11_weights_53 rfl hl (by decide) rfl (fun ls hl => ?_)
          obtain ⟨x3_13, ex3_13⟩ : ∃ z : Int32, z = (x3_2 + (1 : Int32)) := ⟨_, rfl⟩
          have hf := x_lE ex3_13 hf
          refine lv_iinc (v := x3_13) (lv' := [(3, .int x3_13), (2, .int x2_12), (0, .ref (g.2.2.1 0)), (1, .int a1)]) hx hb dX11_weights_54 hl (k := 3) rfl (by rw [ex3_13]; rfl) (by decide) rfl (fun ls hl => ?_)
          refine lv_goto (tgt := 4) hx hb dX11_weights_57 (by decide) ?_
          exact ih_5 _ _ _ _ _ _ (lv_sub hl [2, 3, 1, 0] rfl) hw hf
        refine lv_icmp_ne (tgt := 51) hx hb dX11_weights_31 (by decide) (fun q_14 => ?_) (fun q_14 => ?_)
        · have hf := x_iN hf q_14
          refine lv_iconst (v := (0 : Int32)) hx hb dX11_weights_51 (by decide) ?_
          exact hk52_10 _ _ _ _ _ (lv_sub hl [0, 1, 3] rfl) hw hf
        · have hf := x_iP hf q_14
          refine lv_aload_n hx hb dX11_weights_34 rfl (lv_at hl 0 rfl) ?_
          refine fg_X11_7 (k2 := 1) C hw ic1_0 rfl dX11_weights_35 ?_
          refine lv_sipush (v := (642 : Int32)) hx hb dX11_weights_38 (by decide) ?_
          refine lv_iconst (v := (5 : Int32)) hx hb dX11_weights_41 (by decide) ?_
          refine lv_iload_n hx hb dX11_weights_42 rfl (lv_at hl 3 rfl) ?_
          refine lv_imul hx hb dX11_weights_43 ?_
          refine lv_iadd hx hb dX11_weights_44 ?_
          refine lv_iconst (v := (3 : Int32)) hx hb dX11_weights_45 (by decide) ?_
          refine lv_iadd hx hb dX11_weights_46 ?_
          obtain ⟨q_15, hf⟩ := x_gE hf
          refine x_ald C hw ic1_1 q_15 rfl dX11_weights_47 ?_
          refine lv_goto (tgt := 52) hx hb dX11_weights_48 (by decide) ?_
          exact hk52_10 _ _ _ _ _ (lv_sub hl [0, 1, 3] rfl) hw hf
  exact hL_16 _ _ _ _ _ _ _ (lv_sub hl [2, 3, 1, 0] rfl) hw hf
noncomputable def fX11_areAlike_L64 (a1 : Int32) (a2 : Int32) : Nat → xM → Int32 → Int32 → Option (Int32 × xM)
  | 0, _, _, _ => none
  | n_16 + 1, M_15, x3_13, x4_14 => if (4 : Int32) ≤ x4_14 then (x_z x3_13 (some (x3_13, M_15))) else (x_l (fun (M_21 : xM) (z_19 : Int32) => x_l (x4_14 + (1 : Int32)) fun x4_22 => fX11_areAlike_L64 a1 a2 n_16 M_21 z_19 x4_22) fun k96_20 => x_l (fun (M_24 : xM) => k96_20 M_24 (0 : Int32)) fun k95_23 => if x3_13 = 0 then (k95_23 M_15) else (x_b (fX11_deedsOf M_15 a1 x4_14) fun v_28 M_26 => x_b (fX11_deedsOf M_26 a2 x4_14) fun v_31 M_29 => if v_28 = v_31 then (k96_20 M_29 (1 : Int32)) else (k95_23 M_29)))
noncomputable def fX11_areAlike (M : xM) (a1 : Int32) (a2 : Int32) : Option (Int32 × xM) := x_b (fX11_weights M a1) fun v_3 M_1 => x_b (fX11_weights M_1 a2) fun v_6 M_4 => x_b (fX11_size M_4 (v_3 - v_6)) fun v_9 M_7 => x_l (fun (M_12 : xM) (z_10 : Int32) => fX11_areAlike_L64 a1 a2 x_FU M_12 z_10 (0 : Int32)) fun k60_11 => x_l (fun (M_35 : xM) => k60_11 M_35 (0 : Int32)) fun k59_34 => if (5 : Int32) < v_9 then (k59_34 M_7) else (x_g ((792 : Int32) + ((10 : Int32) * a1)) 1675 (x_b (fX11_isYoung M_7 (M_7 1 ((792 : Int32) + ((10 : Int32) * a1)).toNatClampNeg)) fun v_40 M_38 => x_g ((792 : Int32) + ((10 : Int32) * a2)) 1675 (x_b (fX11_isYoung M_38 (M_38 1 ((792 : Int32) + ((10 : Int32) * a2)).toNatClampNeg)) fun v_44 M_42 => if v_40 = v_44 then (k60_11 M_42 (1 : Int32)) else (k59_34 M_42))))
set_option maxRecDepth 100000 in
set_option maxHeartbeats 4000000 in
theorem mX11_areAlike (l : Launch) (g : xG) {a1 : Int32} {a2 : Int32} {r : Int32} {M' : xM}  {M : xM} (hf : fX11_areAlike M a1 a2 = some (r, M')) : x_cI l g 1 yX11_areAlike cX11_areAlike 5 .boolean 2 43 [.ref (g.2.2.1 0), .int a1, .int a2] M (fun v N => v = r ∧ N = M') := by
  refine x_stZ RX11 (by decide) rfl (Nat.le_of_ble_eq_true rfl) ?_
  intro p e s m args below meth c Q ls C hw ret hl
  obtain ⟨hx, hb, hml, hown, hB, -⟩ := id C
  have hl : lv_has ls 5 [(0, .ref (g.2.2.1 0)), (1, .int a1), (2, .int a2)] := hl
  unfold fX11_areAlike at hf
  refine lv_aload_n hx hb dX11_areAlike_0 rfl (lv_at hl 0 rfl) ?_
  refine lv_iload_n hx hb dX11_areAlike_1 rfl (lv_at hl 1 rfl) ?_
  obtain ⟨tv_3, tM_1, c_2, hf⟩ := x_bE hf
  refine x_vI C hw hl.1 [.int a1] [] (mX11_weights l g c_2) lk_X11_263 ic1_0 (by decide) rfl (by decide) rfl (Nat.le_of_ble_eq_true rfl) ⟨Nat.zero_le _, Nat.zero_le _⟩ dX11_areAlike_2 (fun v_3 M_1 H locs hN hw => ?_)
  obtain ⟨rfl, rfl⟩ := hN
  refine lv_aload_n hx hb dX11_areAlike_5 rfl (lv_at hl 0 rfl) ?_
  refine lv_iload_n hx hb dX11_areAlike_6 rfl (lv_at hl 2 rfl) ?_
  obtain ⟨tv_6, tM_4, c_5, hf⟩ := x_bE hf
  refine x_vI C hw hl.1 [.int a2] [.int v_3] (mX11_weights l g c_5) lk_X11_263 ic1_0 (by decide) rfl (by decide) rfl (Nat.le_of_ble_eq_true rfl) ⟨Nat.zero_le _, Nat.zero_le _⟩ dX11_areAlike_7 (fun v_6 M_4 H locs hN hw => ?_)
  obtain ⟨rfl, rfl⟩ := hN
  refine lv_isub hx hb dX11_areAlike_10 ?_
  obtain ⟨tv_9, tM_7, c_8, hf⟩ := x_bE hf
  refine x_sI C hw hl.1 [.int (v_3 - v_6)] [] (mX11_size l g c_8) lk_X11_266 (by decide) rfl (Nat.le_of_ble_eq_true rfl) ⟨Nat.zero_le _, Nat.zero_le _⟩ dX11_areAlike_11 (fun v_9 M_7 H locs hN hw => ?_)
  obtain ⟨rfl, rfl⟩ := hN
  refine lv_iconst (v := (5 : Int32)) hx hb dX11_areAlike_14 (by decide) ?_
  obtain ⟨k60_11, ek60_11, hf⟩ := x_jE hf
  have hk60_11 : ∀ (H : Heap) (locs : List Loc) (M_12 : xM) (z_10 : Int32) (ls : Array Slot) , lv_has ls 5 [(0, .ref (g.2.2.1 0)), (1, .int a1), (2, .int a2)] → x_w g 1 s H locs M_12 → k60_11 M_12 z_10 = some (r, M') → W p l e (x_rm 2 43) s m args below meth c H locs 0 0 Q (F0 m 60 ls [.int z_10]) := by
    intro H locs M_12 z_10 ls  hl hw hf
    rw [ek60_11] at hf
    refine lv_istore_n (lv' := [(3, .int z_10), (0, .ref (g.2.2.1 0)), (1, .int a1), (2, .int a2)]) hx hb dX11_areAlike_60 rfl hl (by decide) rfl (fun ls hl => ?_)
    refine lv_iconst (v := (0 : Int32)) hx hb dX11_areAlike_61 (by decide) ?_
    refine lv_istore (lv' := [(4, .int (0 : Int32)), (3, .int z_10), (0, .ref (g.2.2.1 0)), (1, .int a1), (2, .int a2)]) hx hb dX11_areAlike_62 hl (by decide) rfl (fun ls hl => ?_)
    have hL_33 : ∀ (n_16 : Nat) (H : Heap) (locs : List Loc) (M_15 : xM) (x3_13 : Int32) (x4_14 : Int32) (ls : Array Slot) , lv_has ls 5 [(0, .ref (g.2.2.1 0)), (1, .int a1), (2, .int a2), (3, .int x3_13), (4, .int x4_14)] → x_w g 1 s H locs M_15 → fX11_areAlike_L64 a1 a2 n_16 M_15 x3_13 x4_14 = some (r, M') → W p l e (x_rm 2 43) s m args below meth c H locs 0 0 Q (F0 m 64 ls []) := by
      intro n_16
      induction n_16 with
      | zero =>
        intro H locs M_15 x3_13 x4_14 ls  hl hw hf
        rw [fX11_areAlike_L64] at hf
        cases hf
      | succ n_16 ih_17 =>
        intro H locs M_15 x3_13 x4_14 ls  hl hw hf
        rw [fX11_areAlike_L64] at hf
        refine lv_iload hx hb dX11_areAlike_64 (lv_at hl 4 rfl) ?_
        refine lv_iconst (v := (4 : Int32)) hx hb dX11_areAlike_66 (by decide) ?_
        refine lv_icmp_ge (tgt := 103) hx hb dX11_areAlike_67 (by decide) (fun q_18 => ?_) (fun q_18 => ?_)
        · have hf := x_iP hf q_18
          refine lv_iload_n hx hb dX11_areAlike_103 rfl (lv_at hl 3 rfl) ?_
          exact ret hf dX11_areAlike_104 hw
        · have hf := x_iN hf q_18
          refine lv_iload_n hx hb dX11_areAlike_70 rfl (lv_at hl 3 rfl) ?_
          obtain ⟨k96_20, ek96_20, hf⟩ := x_jE hf
          have hk96_20 : ∀ (H : Heap) (locs : List Loc) (M_21 : xM) (z_19 : Int32) (ls : Array Slot) , lv_has ls 5 [(0, .ref (g.2.2.1 0)), (1, .int a1), (2, .int a2), (4, .int x4_14)] → x_w g 1 s H locs M_21 → k96_20 M_21 z_19 = some (r, M') → W p l e (x_rm 2 43) s m args below meth c H locs 0 0 Q (F0 m 96 ls [.int z_19]) := by
            intro H locs M_21 z_19 ls  hl hw hf
            rw [ek96_20] at hf
            refine lv_istore_n (lv' := [(3, .int z_19), (0, .ref (g.2.2.1 0)), (1, .int a1), (2, .int a2), (4, .int x4_14)]) hx hb dX11_areAlike_96 rfl hl (by decide) rfl (fun ls hl => ?_)
            obtain ⟨x4_22, ex4_22⟩ : ∃ z : Int32, z = (x4_14 + (1 : Int32)) := ⟨_, rfl⟩
            have hf := x_lE ex4_22 hf
            refine lv_iinc (v := x4_22) (lv' := [(4, .int x4_22), (3, .int z_19), (0, .ref (g.2.2.1 0)), (1, .int a1), (2, .int a2)]) hx hb dX11_areAlike_97 hl (k := 4) rfl (by rw [ex4_22]; rfl) (by decide) rfl (fun ls hl => ?_)
            refine lv_goto (tgt := 64) hx hb dX11_areAlike_100 (by decide) ?_
            exact ih_17 _ _ _ _ _ _ (lv_sub hl [2, 3, 4, 1, 0] rfl) hw hf
          obtain ⟨k95_23, ek95_23, hf⟩ := x_jE hf
          have hk95_23 : ∀ (H : Heap) (locs : List Loc) (M_24 : xM)  (ls : Array Slot) , lv_has ls 5 [(0, .ref (g.2.2.1 0)), (1, .int a1), (2, .int a2), (4, .int x4_14)] → x_w g 1 s H locs M_24 → k95_23 M_24 = some (r, M') → W p l e (x_rm 2 43) s m args below meth c H locs 0 0 Q (F0 m 95 ls []) := by
            intro H locs M_24  ls  hl hw hf
            rw [ek95_23] at hf
            refine lv_iconst (v := (0 : Int32)) hx hb dX11_areAlike_95 (by decide) ?_
            exact hk96_20 _ _ _ _ _ (lv_sub hl [0, 1, 2, 3] rfl) hw hf
          refine lv_if_eq (tgt := 95) hx hb dX11_areAlike_71 (by decide) (fun q_25 => ?_) (fun q_25 => ?_)
          · have hf := x_iP hf q_25
            exact hk95_23 _ _ _ _ (lv_sub hl [0, 1, 2, 4] rfl) hw hf
          · have hf := x_iN hf q_25
            refine lv_aload_n hx hb dX11_areAlike_74 rfl (lv_at hl 0 rfl) ?_
            refine lv_iload_n hx hb dX11_areAlike_75 rfl (lv_at hl 1 rfl) ?_
            refine lv_iload hx hb dX11_areAlike_76 (lv_at hl 4 rfl) ?_
            obtain ⟨tv_28, tM_26, c_27, hf⟩ := x_bE hf
            refine x_vI C hw hl.1 [.int a1, .int x4_14] [] (mX11_deedsOf l g c_27) lk_X11_213 ic1_0 (by decide) rfl (by decide) rfl (Nat.le_of_ble_eq_true rfl) ⟨Nat.zero_le _, Nat.zero_le _⟩ dX11_areAlike_78 (fun v_28 M_26 H locs hN hw => ?_)
            obtain ⟨rfl, rfl⟩ := hN
            refine lv_aload_n hx hb dX11_areAlike_81 rfl (lv_at hl 0 rfl) ?_
            refine lv_iload_n hx hb dX11_areAlike_82 rfl (lv_at hl 2 rfl) ?_
            refine lv_iload hx hb dX11_areAlike_83 (lv_at hl 4 rfl) ?_
            obtain ⟨tv_31, tM_29, c_30, hf⟩ := x_bE hf
            refine x_vI C hw hl.1 [.int a2, .int x4_14] [.int v_28] (mX11_deedsOf l g c_30) lk_X11_213 ic1_0 (by decide) rfl (by decide) rfl (Nat.le_of_ble_eq_true rfl) ⟨Nat.zero_le _, Nat.zero_le _⟩ dX11_areAlike_85 (fun v_31 M_29 H locs hN hw => ?_)
            obtain ⟨rfl, rfl⟩ := hN
            refine lv_icmp_ne (tgt := 95) hx hb dX11_areAlike_88 (by decide) (fun q_32 => ?_) (fun q_32 => ?_)
            · have hf := x_iN hf q_32
              exact hk95_23 _ _ _ _ (lv_sub hl [0, 1, 2, 4] rfl) hw hf
            · have hf := x_iP hf q_32
              refine lv_iconst (v := (1 : Int32)) hx hb dX11_areAlike_91 (by decide) ?_
              refine lv_goto (tgt := 96) hx hb dX11_areAlike_92 (by decide) ?_
              exact hk96_20 _ _ _ _ _ (lv_sub hl [0, 1, 2, 4] rfl) hw hf
    exact hL_33 _ _ _ _ _ _ _ (lv_sub hl [2, 3, 4, 1, 0] rfl) hw hf
  obtain ⟨k59_34, ek59_34, hf⟩ := x_jE hf
  have hk59_34 : ∀ (H : Heap) (locs : List Loc) (M_35 : xM)  (ls : Array Slot) , lv_has ls 5 [(0, .ref (g.2.2.1 0)), (1, .int a1), (2, .int a2)] → x_w g 1 s H locs M_35 → k59_34 M_35 = some (r, M') → W p l e (x_rm 2 43) s m args below meth c H locs 0 0 Q (F0 m 59 ls []) := by
    intro H locs M_35  ls  hl hw hf
    rw [ek59_34] at hf
    refine lv_iconst (v := (0 : Int32)) hx hb dX11_areAlike_59 (by decide) ?_
    exact hk60_11 _ _ _ _ _ (lv_sub hl [0, 1, 2] rfl) hw hf
  refine lv_icmp_gt (tgt := 59) hx hb dX11_areAlike_15 (by decide) (fun q_36 => ?_) (fun q_36 => ?_)
  · have hf := x_iP hf q_36
    exact hk59_34 _ _ _ _ (lv_sub hl [0, 1, 2] rfl) hw hf
  · have hf := x_iN hf q_36
    refine lv_aload_n hx hb dX11_areAlike_18 rfl (lv_at hl 0 rfl) ?_
    refine lv_aload_n hx hb dX11_areAlike_19 rfl (lv_at hl 0 rfl) ?_
    refine fg_X11_7 (k2 := 1) C hw ic1_0 rfl dX11_areAlike_20 ?_
    refine lv_sipush (v := (792 : Int32)) hx hb dX11_areAlike_23 (by decide) ?_
    refine lv_bipush (v := (10 : Int32)) hx hb dX11_areAlike_26 (by decide) ?_
    refine lv_iload_n hx hb dX11_areAlike_28 rfl (lv_at hl 1 rfl) ?_
    refine lv_imul hx hb dX11_areAlike_29 ?_
    refine lv_iadd hx hb dX11_areAlike_30 ?_
    obtain ⟨q_37, hf⟩ := x_gE hf
    refine x_ald C hw ic1_1 q_37 rfl dX11_areAlike_31 ?_
    obtain ⟨tv_40, tM_38, c_39, hf⟩ := x_bE hf
    refine x_vI C hw hl.1 [.int (M_7 1 ((792 : Int32) + ((10 : Int32) * a1)).toNatClampNeg)] [] (mX11_isYoung l g c_39) lk_X11_66 ic1_0 (by decide) rfl (by decide) rfl (Nat.le_of_ble_eq_true rfl) ⟨Nat.zero_le _, Nat.zero_le _⟩ dX11_areAlike_32 (fun v_40 M_38 H locs hN hw => ?_)
    obtain ⟨rfl, rfl⟩ := hN
    refine lv_aload_n hx hb dX11_areAlike_35 rfl (lv_at hl 0 rfl) ?_
    refine lv_aload_n hx hb dX11_areAlike_36 rfl (lv_at hl 0 rfl) ?_
    refine fg_X11_7 (k2 := 1) C hw ic1_0 rfl dX11_areAlike_37 ?_
    refine lv_sipush (v := (792 : Int32)) hx hb dX11_areAlike_40 (by decide) ?_
    refine lv_bipush (v := (10 : Int32)) hx hb dX11_areAlike_43 (by decide) ?_
    refine lv_iload_n hx hb dX11_areAlike_45 rfl (lv_at hl 2 rfl) ?_
    refine lv_imul hx hb dX11_areAlike_46 ?_
    refine lv_iadd hx hb dX11_areAlike_47 ?_
    obtain ⟨q_41, hf⟩ := x_gE hf
    refine x_ald C hw ic1_1 q_41 rfl dX11_areAlike_48 ?_
    obtain ⟨tv_44, tM_42, c_43, hf⟩ := x_bE hf
    refine x_vI C hw hl.1 [.int (M_38 1 ((792 : Int32) + ((10 : Int32) * a2)).toNatClampNeg)] [.int v_40] (mX11_isYoung l g c_43) lk_X11_66 ic1_0 (by decide) rfl (by decide) rfl (Nat.le_of_ble_eq_true rfl) ⟨Nat.zero_le _, Nat.zero_le _⟩ dX11_areAlike_49 (fun v_44 M_42 H locs hN hw => ?_)
    obtain ⟨rfl, rfl⟩ := hN
    refine lv_icmp_ne (tgt := 59) hx hb dX11_areAlike_52 (by decide) (fun q_45 => ?_) (fun q_45 => ?_)
    · have hf := x_iN hf q_45
      exact hk59_34 _ _ _ _ (lv_sub hl [0, 1, 2] rfl) hw hf
    · have hf := x_iP hf q_45
      refine lv_iconst (v := (1 : Int32)) hx hb dX11_areAlike_55 (by decide) ?_
      refine lv_goto (tgt := 60) hx hb dX11_areAlike_56 (by decide) ?_
      exact hk60_11 _ _ _ _ _ (lv_sub hl [0, 1, 2] rfl) hw hf
noncomputable def fX11_alike (M : xM) (a1 : Int32) (a2 : Int32) : Option (Int32 × xM) := x_b (fX11_isJudgment M a1) fun v_3 M_1 => if v_3 = 0 then (some ((-1000000001 : Int32), M_1)) else (x_b (fX11_isJudgment M_1 a2) fun v_7 M_5 => if v_7 = 0 then (some ((-1000000001 : Int32), M_5)) else (if a1 = a2 then (some ((-1000000001 : Int32), M_5)) else (x_b (fX11_areAlike M_5 a1 a2) fun v_12 M_10 => if v_12 = 0 then (some ((0 : Int32), M_10)) else (some ((1 : Int32), M_10)))))
set_option maxRecDepth 100000 in
set_option maxHeartbeats 4000000 in
theorem mX11_alike (l : Launch) (g : xG) {a1 : Int32} {a2 : Int32} {r : Int32} {M' : xM}  {M : xM} (hf : fX11_alike M a1 a2 = some (r, M')) : x_cI l g 1 yX11_alike cX11_alike 3 .int 3 67 [.ref (g.2.2.1 0), .int a1, .int a2] M (fun v N => v = r ∧ N = M') := by
  refine x_stI RX11 (by decide) rfl (Nat.le_of_ble_eq_true rfl) ?_
  intro p e s m args below meth c Q ls C hw ret hl
  obtain ⟨hx, hb, hml, hown, hB, -⟩ := id C
  have hl : lv_has ls 3 [(0, .ref (g.2.2.1 0)), (1, .int a1), (2, .int a2)] := hl
  unfold fX11_alike at hf
  refine lv_aload_n hx hb dX11_alike_0 rfl (lv_at hl 0 rfl) ?_
  refine lv_iload_n hx hb dX11_alike_1 rfl (lv_at hl 1 rfl) ?_
  obtain ⟨tv_3, tM_1, c_2, hf⟩ := x_bE hf
  refine x_vI C hw hl.1 [.int a1] [] (mX11_isJudgment l g c_2) lk_X11_221 ic1_0 (by decide) rfl (by decide) rfl (Nat.le_of_ble_eq_true rfl) ⟨Nat.zero_le _, Nat.zero_le _⟩ dX11_alike_2 (fun v_3 M_1 H locs hN hw => ?_)
  obtain ⟨rfl, rfl⟩ := hN
  refine lv_if_eq (tgt := 21) hx hb dX11_alike_5 (by decide) (fun q_4 => ?_) (fun q_4 => ?_)
  · have hf := x_iP hf q_4
    refine lv_ldc hx hb hown (hB _ mk_X11_60) dX11_alike_21 ?_
    exact ret hf dX11_alike_23 hw
  · have hf := x_iN hf q_4
    refine lv_aload_n hx hb dX11_alike_8 rfl (lv_at hl 0 rfl) ?_
    refine lv_iload_n hx hb dX11_alike_9 rfl (lv_at hl 2 rfl) ?_
    obtain ⟨tv_7, tM_5, c_6, hf⟩ := x_bE hf
    refine x_vI C hw hl.1 [.int a2] [] (mX11_isJudgment l g c_6) lk_X11_221 ic1_0 (by decide) rfl (by decide) rfl (Nat.le_of_ble_eq_true rfl) ⟨Nat.zero_le _, Nat.zero_le _⟩ dX11_alike_10 (fun v_7 M_5 H locs hN hw => ?_)
    obtain ⟨rfl, rfl⟩ := hN
    refine lv_if_eq (tgt := 21) hx hb dX11_alike_13 (by decide) (fun q_8 => ?_) (fun q_8 => ?_)
    · have hf := x_iP hf q_8
      refine lv_ldc hx hb hown (hB _ mk_X11_60) dX11_alike_21 ?_
      exact ret hf dX11_alike_23 hw
    · have hf := x_iN hf q_8
      refine lv_iload_n hx hb dX11_alike_16 rfl (lv_at hl 1 rfl) ?_
      refine lv_iload_n hx hb dX11_alike_17 rfl (lv_at hl 2 rfl) ?_
      refine lv_icmp_ne (tgt := 24) hx hb dX11_alike_18 (by decide) (fun q_9 => ?_) (fun q_9 => ?_)
      · have hf := x_iN hf q_9
        refine lv_aload_n hx hb dX11_alike_24 rfl (lv_at hl 0 rfl) ?_
        refine lv_iload_n hx hb dX11_alike_25 rfl (lv_at hl 1 rfl) ?_
        refine lv_iload_n hx hb dX11_alike_26 rfl (lv_at hl 2 rfl) ?_
        obtain ⟨tv_12, tM_10, c_11, hf⟩ := x_bE hf
        refine x_vI C hw hl.1 [.int a1, .int a2] [] (mX11_areAlike l g c_11) lk_X11_269 ic1_0 (by decide) rfl (by decide) rfl (Nat.le_of_ble_eq_true rfl) ⟨Nat.zero_le _, Nat.zero_le _⟩ dX11_alike_27 (fun v_12 M_10 H locs hN hw => ?_)
        obtain ⟨rfl, rfl⟩ := hN
        refine lv_if_eq (tgt := 37) hx hb dX11_alike_30 (by decide) (fun q_13 => ?_) (fun q_13 => ?_)
        · have hf := x_iP hf q_13
          refine lv_iconst (v := (0 : Int32)) hx hb dX11_alike_37 (by decide) ?_
          exact ret hf dX11_alike_38 hw
        · have hf := x_iN hf q_13
          refine lv_iconst (v := (1 : Int32)) hx hb dX11_alike_33 (by decide) ?_
          refine lv_goto (tgt := 38) hx hb dX11_alike_34 (by decide) ?_
          exact ret hf dX11_alike_38 hw
      · have hf := x_iP hf q_9
        refine lv_ldc hx hb hown (hB _ mk_X11_60) dX11_alike_21 ?_
        exact ret hf dX11_alike_23 hw
noncomputable def fX11_unlike_L23 (x3_3 : Int32) (k108_12 : xM → Int32 → Int32 → Option (Int32 × xM)) : Nat → xM → Int32 → Int32 → Int32 → Option (Int32 × xM)
  | 0, _, _, _, _ => none
  | n_19 + 1, M_18, x1_15, x2_16, x4_17 => if (M_18 1 20) ≤ x4_17 then (k108_12 M_18 x1_15 x2_16) else (x_g (((792 : Int32) + ((10 : Int32) * x3_3)) + (2 : Int32)) 1675 (x_g (((792 : Int32) + ((10 : Int32) * x4_17)) + (2 : Int32)) 1675 (x_b (fX11_size M_18 ((M_18 1 (((792 : Int32) + ((10 : Int32) * x3_3)) + (2 : Int32)).toNatClampNeg) - (M_18 1 (((792 : Int32) + ((10 : Int32) * x4_17)) + (2 : Int32)).toNatClampNeg))) fun v_27 M_25 => x_l (fun (M_31 : xM) (x1_28 : Int32) (x2_29 : Int32) => x_l (x4_17 + (1 : Int32)) fun x4_32 => fX11_unlike_L23 x3_3 k108_12 n_19 M_31 x1_28 x2_29 x4_32) fun k102_30 => if v_27 ≤ x2_16 then (k102_30 M_25 x1_15 x2_16) else (x_b (fX11_areAlike M_25 x3_3 x4_17) fun v_36 M_34 => if v_36 = 0 then (k102_30 M_34 x1_15 x2_16) else (x_l (((100 : Int32) * x3_3) + x4_17) fun x1_38 => k102_30 M_34 x1_38 v_27)))))
noncomputable def fX11_unlike_L7  : Nat → xM → Int32 → Int32 → Int32 → Option (Int32 × xM)
  | 0, _, _, _, _ => none
  | n_5 + 1, M_4, x1_1, x2_2, x3_3 => if (M_4 1 20) ≤ x3_3 then (some (x1_1, M_4)) else (x_l (x3_3 + (1 : Int32)) fun x4_9 => x_l (fun (M_13 : xM) (x1_10 : Int32) (x2_11 : Int32) => x_l (x3_3 + (1 : Int32)) fun x3_14 => fX11_unlike_L7 n_5 M_13 x1_10 x2_11 x3_14) fun k108_12 => fX11_unlike_L23 x3_3 k108_12 x_FU M_4 x1_1 x2_2 x4_9)
noncomputable def fX11_unlike (M : xM)  : Option (Int32 × xM) := fX11_unlike_L7 x_FU M (-1000000005 : Int32) (0 : Int32) (0 : Int32)
set_option maxRecDepth 100000 in
set_option maxHeartbeats 4000000 in
theorem mX11_unlike (l : Launch) (g : xG)  {r : Int32} {M' : xM}  {M : xM} (hf : fX11_unlike M  = some (r, M')) : x_cI l g 1 yX11_unlike cX11_unlike 6 .int 3 67 [.ref (g.2.2.1 0)] M (fun v N => v = r ∧ N = M') := by
  refine x_stI RX11 (by decide) rfl (Nat.le_of_ble_eq_true rfl) ?_
  intro p e s m args below meth c Q ls C hw ret hl
  obtain ⟨hx, hb, hml, hown, hB, -⟩ := id C
  have hl : lv_has ls 6 [(0, .ref (g.2.2.1 0))] := hl
  unfold fX11_unlike at hf
  refine lv_ldc hx hb hown (hB _ mk_X11_55) dX11_unlike_0 ?_
  refine lv_istore_n (lv' := [(1, .int (-1000000005 : Int32)), (0, .ref (g.2.2.1 0))]) hx hb dX11_unlike_2 rfl hl (by decide) rfl (fun ls hl => ?_)
  refine lv_iconst (v := (0 : Int32)) hx hb dX11_unlike_3 (by decide) ?_
  refine lv_istore_n (lv' := [(2, .int (0 : Int32)), (1, .int (-1000000005 : Int32)), (0, .ref (g.2.2.1 0))]) hx hb dX11_unlike_4 rfl hl (by decide) rfl (fun ls hl => ?_)
  refine lv_iconst (v := (0 : Int32)) hx hb dX11_unlike_5 (by decide) ?_
  refine lv_istore_n (lv' := [(3, .int (0 : Int32)), (2, .int (0 : Int32)), (1, .int (-1000000005 : Int32)), (0, .ref (g.2.2.1 0))]) hx hb dX11_unlike_6 rfl hl (by decide) rfl (fun ls hl => ?_)
  have hL_40 : ∀ (n_5 : Nat) (H : Heap) (locs : List Loc) (M_4 : xM) (x1_1 : Int32) (x2_2 : Int32) (x3_3 : Int32) (ls : Array Slot) , lv_has ls 6 [(0, .ref (g.2.2.1 0)), (1, .int x1_1), (2, .int x2_2), (3, .int x3_3)] → x_w g 1 s H locs M_4 → fX11_unlike_L7 n_5 M_4 x1_1 x2_2 x3_3 = some (r, M') → W p l e (x_rm 3 67) s m args below meth c H locs 0 0 Q (F0 m 7 ls []) := by
    intro n_5
    induction n_5 with
    | zero =>
      intro H locs M_4 x1_1 x2_2 x3_3 ls  hl hw hf
      rw [fX11_unlike_L7] at hf
      cases hf
    | succ n_5 ih_6 =>
      intro H locs M_4 x1_1 x2_2 x3_3 ls  hl hw hf
      rw [fX11_unlike_L7] at hf
      refine lv_iload_n hx hb dX11_unlike_7 rfl (lv_at hl 3 rfl) ?_
      refine lv_aload_n hx hb dX11_unlike_8 rfl (lv_at hl 0 rfl) ?_
      refine fg_X11_7 (k2 := 1) C hw ic1_0 rfl dX11_unlike_9 ?_
      refine lv_bipush (v := (20 : Int32)) hx hb dX11_unlike_12 (by decide) ?_
      refine x_ald (j := 20) C hw ic1_1 (x_inl rfl) rfl dX11_unlike_14 ?_
      refine lv_icmp_ge (tgt := 114) hx hb dX11_unlike_15 (by decide) (fun q_8 => ?_) (fun q_8 => ?_)
      · have hf := x_iP hf q_8
        refine lv_iload_n hx hb dX11_unlike_114 rfl (lv_at hl 1 rfl) ?_
        exact ret hf dX11_unlike_115 hw
      · have hf := x_iN hf q_8
        refine lv_iload_n hx hb dX11_unlike_18 rfl (lv_at hl 3 rfl) ?_
        refine lv_iconst (v := (1 : Int32)) hx hb dX11_unlike_19 (by decide) ?_
        refine lv_iadd hx hb dX11_unlike_20 ?_
        refine lv_topi (fun x4_9 ex4_9 => ?_)
        have hf := x_lE ex4_9 hf
        refine lv_istore (lv' := [(4, .int x4_9), (0, .ref (g.2.2.1 0)), (1, .int x1_1), (2, .int x2_2), (3, .int x3_3)]) hx hb dX11_unlike_21 hl (by decide) rfl (fun ls hl => ?_)
        obtain ⟨k108_12, ek108_12, hf⟩ := x_jE hf
        have hk108_12 : ∀ (H : Heap) (locs : List Loc) (M_13 : xM) (x1_10 : Int32) (x2_11 : Int32) (ls : Array Slot) , lv_has ls 6 [(0, .ref (g.2.2.1 0)), (3, .int x3_3), (1, .int x1_10), (2, .int x2_11)] → x_w g 1 s H locs M_13 → k108_12 M_13 x1_10 x2_11 = some (r, M') → W p l e (x_rm 3 67) s m args below meth c H locs 0 0 Q (F0 m 108 ls []) := by
          intro H locs M_13 x1_10 x2_11 ls  hl hw hf
          rw [ek108_12] at hf
          obtain ⟨x3_14, ex3_14⟩ : ∃ z : Int32, z = (x3_3 + (1 : Int32)) := ⟨_, rfl⟩
          have hf := x_lE ex3_14 hf
          refine lv_iinc (v := x3_14) (lv' := [(3, .int x3_14), (0, .ref (g.2.2.1 0)), (1, .int x1_10), (2, .int x2_11)]) hx hb dX11_unlike_108 hl (k := 1) rfl (by rw [ex3_14]; rfl) (by decide) rfl (fun ls hl => ?_)
          refine lv_goto (tgt := 7) hx hb dX11_unlike_111 (by decide) ?_
          exact ih_6 _ _ _ _ _ _ _ (lv_sub hl [1, 2, 3, 0] rfl) hw hf
        have hL_39 : ∀ (n_19 : Nat) (H : Heap) (locs : List Loc) (M_18 : xM) (x1_15 : Int32) (x2_16 : Int32) (x4_17 : Int32) (ls : Array Slot) , lv_has ls 6 [(0, .ref (g.2.2.1 0)), (3, .int x3_3), (1, .int x1_15), (2, .int x2_16), (4, .int x4_17)] → x_w g 1 s H locs M_18 → fX11_unlike_L23 x3_3 k108_12 n_19 M_18 x1_15 x2_16 x4_17 = some (r, M') → W p l e (x_rm 3 67) s m args below meth c H locs 0 0 Q (F0 m 23 ls []) := by
          intro n_19
          induction n_19 with
          | zero =>
            intro H locs M_18 x1_15 x2_16 x4_17 ls  hl hw hf
            rw [fX11_unlike_L23] at hf
            cases hf
          | succ n_19 ih_20 =>
            intro H locs M_18 x1_15 x2_16 x4_17 ls  hl hw hf
            rw [fX11_unlike_L23] at hf
            refine lv_iload hx hb dX11_unlike_23 (lv_at hl 4 rfl) ?_
            refine lv_aload_n hx hb dX11_unlike_25 rfl (lv_at hl 0 rfl) ?_
            refine fg_X11_7 (k2 := 1) C hw ic1_0 rfl dX11_unlike_26 ?_
            refine lv_bipush (v := (20 : Int32)) hx hb dX11_unlike_29 (by decide) ?_
            refine x_ald (j := 20) C hw ic1_1 (x_inl rfl) rfl dX11_unlike_31 ?_
            refine lv_icmp_ge (tgt := 108) hx hb dX11_unlike_32 (by decide) (fun q_22 => ?_) (fun q_22 => ?_)
            · have hf := x_iP hf q_22
              exact hk108_12 _ _ _ _ _ _ (lv_sub hl [0, 1, 2, 3] rfl) hw hf
            · have hf := x_iN hf q_22
              refine lv_aload_n hx hb dX11_unlike_35 rfl (lv_at hl 0 rfl) ?_
              refine fg_X11_7 (k2 := 1) C hw ic1_0 rfl dX11_unlike_36 ?_
              refine lv_sipush (v := (792 : Int32)) hx hb dX11_unlike_39 (by decide) ?_
              refine lv_bipush (v := (10 : Int32)) hx hb dX11_unlike_42 (by decide) ?_
              refine lv_iload_n hx hb dX11_unlike_44 rfl (lv_at hl 1 rfl) ?_
              refine lv_imul hx hb dX11_unlike_45 ?_
              refine lv_iadd hx hb dX11_unlike_46 ?_
              refine lv_iconst (v := (2 : Int32)) hx hb dX11_unlike_47 (by decide) ?_
              refine lv_iadd hx hb dX11_unlike_48 ?_
              obtain ⟨q_23, hf⟩ := x_gE hf
              refine x_ald C hw ic1_1 q_23 rfl dX11_unlike_49 ?_
              refine lv_aload_n hx hb dX11_unlike_50 rfl (lv_at hl 0 rfl) ?_
              refine fg_X11_7 (k2 := 1) C hw ic1_0 rfl dX11_unlike_51 ?_
              refine lv_sipush (v := (792 : Int32)) hx hb dX11_unlike_54 (by decide) ?_
              refine lv_bipush (v := (10 : Int32)) hx hb dX11_unlike_57 (by decide) ?_
              refine lv_iload hx hb dX11_unlike_59 (lv_at hl 4 rfl) ?_
              refine lv_imul hx hb dX11_unlike_61 ?_
              refine lv_iadd hx hb dX11_unlike_62 ?_
              refine lv_iconst (v := (2 : Int32)) hx hb dX11_unlike_63 (by decide) ?_
              refine lv_iadd hx hb dX11_unlike_64 ?_
              obtain ⟨q_24, hf⟩ := x_gE hf
              refine x_ald C hw ic1_1 q_24 rfl dX11_unlike_65 ?_
              refine lv_isub hx hb dX11_unlike_66 ?_
              obtain ⟨tv_27, tM_25, c_26, hf⟩ := x_bE hf
              refine x_sI C hw hl.1 [.int ((M_18 1 (((792 : Int32) + ((10 : Int32) * x3_3)) + (2 : Int32)).toNatClampNeg) - (M_18 1 (((792 : Int32) + ((10 : Int32) * x4_17)) + (2 : Int32)).toNatClampNeg))] [] (mX11_size l g c_26) lk_X11_266 (by decide) rfl (Nat.le_of_ble_eq_true rfl) ⟨Nat.zero_le _, Nat.zero_le _⟩ dX11_unlike_67 (fun v_27 M_25 H locs hN hw => ?_)
              obtain ⟨rfl, rfl⟩ := hN
              refine lv_istore (lv' := [(5, .int v_27), (0, .ref (g.2.2.1 0)), (3, .int x3_3), (1, .int x1_15), (2, .int x2_16), (4, .int x4_17)]) hx hb dX11_unlike_70 hl (by decide) rfl (fun ls hl => ?_)
              refine lv_iload hx hb dX11_unlike_72 (lv_at hl 0 rfl) ?_
              refine lv_iload_n hx hb dX11_unlike_74 rfl (lv_at hl 4 rfl) ?_
              obtain ⟨k102_30, ek102_30, hf⟩ := x_jE hf
              have hk102_30 : ∀ (H : Heap) (locs : List Loc) (M_31 : xM) (x1_28 : Int32) (x2_29 : Int32) (ls : Array Slot) , lv_has ls 6 [(0, .ref (g.2.2.1 0)), (3, .int x3_3), (4, .int x4_17), (1, .int x1_28), (2, .int x2_29)] → x_w g 1 s H locs M_31 → k102_30 M_31 x1_28 x2_29 = some (r, M') → W p l e (x_rm 3 67) s m args below meth c H locs 0 0 Q (F0 m 102 ls []) := by
                intro H locs M_31 x1_28 x2_29 ls  hl hw hf
                rw [ek102_30] at hf
                obtain ⟨x4_32, ex4_32⟩ : ∃ z : Int32, z = (x4_17 + (1 : Int32)) := ⟨_, rfl⟩
                have hf := x_lE ex4_32 hf
                refine lv_iinc (v := x4_32) (lv' := [(4, .int x4_32), (0, .ref (g.2.2.1 0)), (3, .int x3_3), (1, .int x1_28), (2, .int x2_29)]) hx hb dX11_unlike_102 hl (k := 2) rfl (by rw [ex4_32]; rfl) (by decide) rfl (fun ls hl => ?_)
                refine lv_goto (tgt := 23) hx hb dX11_unlike_105 (by decide) ?_
                exact ih_20 _ _ _ _ _ _ _ (lv_sub hl [1, 2, 3, 4, 0] rfl) hw hf
              refine lv_icmp_le (tgt := 102) hx hb dX11_unlike_75 (by decide) (fun q_33 => ?_) (fun q_33 => ?_)
              · have hf := x_iP hf q_33
                exact hk102_30 _ _ _ _ _ _ (lv_sub hl [1, 2, 5, 3, 4] rfl) hw hf
              · have hf := x_iN hf q_33
                refine lv_aload_n hx hb dX11_unlike_78 rfl (lv_at hl 1 rfl) ?_
                refine lv_iload_n hx hb dX11_unlike_79 rfl (lv_at hl 2 rfl) ?_
                refine lv_iload hx hb dX11_unlike_80 (lv_at hl 5 rfl) ?_
                obtain ⟨tv_36, tM_34, c_35, hf⟩ := x_bE hf
                refine x_vI C hw hl.1 [.int x3_3, .int x4_17] [] (mX11_areAlike l g c_35) lk_X11_269 ic1_0 (by decide) rfl (by decide) rfl (Nat.le_of_ble_eq_true rfl) ⟨Nat.zero_le _, Nat.zero_le _⟩ dX11_unlike_82 (fun v_36 M_34 H locs hN hw => ?_)
                obtain ⟨rfl, rfl⟩ := hN
                refine lv_if_ne (tgt := 91) hx hb dX11_unlike_85 (by decide) (fun q_37 => ?_) (fun q_37 => ?_)
                · have hf := x_iN hf q_37
                  refine lv_iload hx hb dX11_unlike_91 (lv_at hl 0 rfl) ?_
                  refine lv_istore_n (lv' := [(2, .int v_27), (5, .int v_27), (0, .ref (g.2.2.1 0)), (3, .int x3_3), (1, .int x1_15), (4, .int x4_17)]) hx hb dX11_unlike_93 rfl hl (by decide) rfl (fun ls hl => ?_)
                  refine lv_bipush (v := (100 : Int32)) hx hb dX11_unlike_94 (by decide) ?_
                  refine lv_iload_n hx hb dX11_unlike_96 rfl (lv_at hl 3 rfl) ?_
                  refine lv_imul hx hb dX11_unlike_97 ?_
                  refine lv_iload hx hb dX11_unlike_98 (lv_at hl 5 rfl) ?_
                  refine lv_iadd hx hb dX11_unlike_100 ?_
                  refine lv_topi (fun x1_38 ex1_38 => ?_)
                  have hf := x_lE ex1_38 hf
                  refine lv_istore_n (lv' := [(1, .int x1_38), (2, .int v_27), (5, .int v_27), (0, .ref (g.2.2.1 0)), (3, .int x3_3), (4, .int x4_17)]) hx hb dX11_unlike_101 rfl hl (by decide) rfl (fun ls hl => ?_)
                  exact hk102_30 _ _ _ _ _ _ (lv_sub hl [3, 4, 5, 0, 1] rfl) hw hf
                · have hf := x_iP hf q_37
                  refine lv_goto (tgt := 102) hx hb dX11_unlike_88 (by decide) ?_
                  exact hk102_30 _ _ _ _ _ _ (lv_sub hl [1, 2, 5, 3, 4] rfl) hw hf
        exact hL_39 _ _ _ _ _ _ _ _ (lv_sub hl [1, 4, 2, 3, 0] rfl) hw hf
  exact hL_40 _ _ _ _ _ _ _ _ (lv_sub hl [3, 2, 1, 0] rfl) hw hf
noncomputable def fX11_spread_L19 (a1 : Int32) (k95_7 : xM → Int32 → Int32 → Option (Int32 × xM)) : Nat → xM → Int32 → Int32 → Int32 → Option (Int32 × xM)
  | 0, _, _, _, _ => none
  | n_14 + 1, M_13, x2_10, x3_11, x4_12 => if (M_13 1 20) ≤ x4_12 then (k95_7 M_13 x2_10 x3_11) else (x_l (fun (M_20 : xM) (z_18 : Int32) => x_b (fX11_share M_20 x4_12 z_18) fun v_23 M_21 => x_l (fun (M_26 : xM) (z_24 : Int32) => x_l (fun (M_29 : xM) (z_27 : Int32) => x_l (x4_12 + (1 : Int32)) fun x4_30 => fX11_spread_L19 a1 k95_7 n_14 M_29 z_24 z_27 x4_30) fun k88_28 => if v_23 ≤ x3_11 then (k88_28 M_26 x3_11) else (k88_28 M_26 v_23)) fun k75_25 => x_l (fun (M_33 : xM) => k75_25 M_33 v_23) fun k69_32 => if x2_10 = (-1 : Int32) then (k69_32 M_21) else (if x2_10 ≤ v_23 then (k75_25 M_21 x2_10) else (k69_32 M_21))) fun k53_19 => if a1 = 0 then (x_b (fX11_fine M_13 x4_12) fun v_42 M_40 => k53_19 M_40 v_42) else (x_b (fX11_flatOf M_13 x4_12) fun v_39 M_37 => k53_19 M_37 v_39))
noncomputable def fX11_spread (M : xM) (a1 : Int32) : Option (Int32 × xM) := x_b (fX11_in M a1 (0 : Int32) (1 : Int32)) fun v_3 M_1 => if v_3 = 0 then (some ((-1000000001 : Int32), M_1)) else (x_l (fun (M_8 : xM) (x2_5 : Int32) (x3_6 : Int32) => if x2_5 = (-1 : Int32) then (some ((0 : Int32), M_8)) else (some ((x3_6 - x2_5), M_8))) fun k95_7 => fX11_spread_L19 a1 k95_7 x_FU M_1 (-1 : Int32) (0 : Int32) (0 : Int32))
set_option maxRecDepth 100000 in
set_option maxHeartbeats 4000000 in
theorem mX11_spread (l : Launch) (g : xG) {a1 : Int32} {r : Int32} {M' : xM}  {M : xM} (hf : fX11_spread M a1 = some (r, M')) : x_cI l g 1 yX11_spread cX11_spread 6 .int 4 104 [.ref (g.2.2.1 0), .int a1] M (fun v N => v = r ∧ N = M') := by
  refine x_stI RX11 (by decide) rfl (Nat.le_of_ble_eq_true rfl) ?_
  intro p e s m args below meth c Q ls C hw ret hl
  obtain ⟨hx, hb, hml, hown, hB, -⟩ := id C
  have hl : lv_has ls 6 [(0, .ref (g.2.2.1 0)), (1, .int a1)] := hl
  unfold fX11_spread at hf
  refine lv_iload_n hx hb dX11_spread_0 rfl (lv_at hl 1 rfl) ?_
  refine lv_iconst (v := (0 : Int32)) hx hb dX11_spread_1 (by decide) ?_
  refine lv_iconst (v := (1 : Int32)) hx hb dX11_spread_2 (by decide) ?_
  obtain ⟨tv_3, tM_1, c_2, hf⟩ := x_bE hf
  refine x_sI C hw hl.1 [.int a1, .int (0 : Int32), .int (1 : Int32)] [] (mX11_in l g c_2) lk_X11_56 (by decide) rfl (Nat.le_of_ble_eq_true rfl) ⟨Nat.zero_le _, Nat.zero_le _⟩ dX11_spread_3 (fun v_3 M_1 H locs hN hw => ?_)
  obtain ⟨rfl, rfl⟩ := hN
  refine lv_if_ne (tgt := 12) hx hb dX11_spread_6 (by decide) (fun q_4 => ?_) (fun q_4 => ?_)
  · have hf := x_iN hf q_4
    refine lv_iconst (v := (-1 : Int32)) hx hb dX11_spread_12 (by decide) ?_
    refine lv_istore_n (lv' := [(2, .int (-1 : Int32)), (0, .ref (g.2.2.1 0)), (1, .int a1)]) hx hb dX11_spread_13 rfl hl (by decide) rfl (fun ls hl => ?_)
    refine lv_iconst (v := (0 : Int32)) hx hb dX11_spread_14 (by decide) ?_
    refine lv_istore_n (lv' := [(3, .int (0 : Int32)), (2, .int (-1 : Int32)), (0, .ref (g.2.2.1 0)), (1, .int a1)]) hx hb dX11_spread_15 rfl hl (by decide) rfl (fun ls hl => ?_)
    refine lv_iconst (v := (0 : Int32)) hx hb dX11_spread_16 (by decide) ?_
    refine lv_istore (lv' := [(4, .int (0 : Int32)), (3, .int (0 : Int32)), (2, .int (-1 : Int32)), (0, .ref (g.2.2.1 0)), (1, .int a1)]) hx hb dX11_spread_17 hl (by decide) rfl (fun ls hl => ?_)
    obtain ⟨k95_7, ek95_7, hf⟩ := x_jE hf
    have hk95_7 : ∀ (H : Heap) (locs : List Loc) (M_8 : xM) (x2_5 : Int32) (x3_6 : Int32) (ls : Array Slot) , lv_has ls 6 [(2, .int x2_5), (3, .int x3_6)] → x_w g 1 s H locs M_8 → k95_7 M_8 x2_5 x3_6 = some (r, M') → W p l e (x_rm 4 104) s m args below meth c H locs 0 0 Q (F0 m 95 ls []) := by
      intro H locs M_8 x2_5 x3_6 ls  hl hw hf
      rw [ek95_7] at hf
      refine lv_iload_n hx hb dX11_spread_95 rfl (lv_at hl 0 rfl) ?_
      refine lv_iconst (v := (-1 : Int32)) hx hb dX11_spread_96 (by decide) ?_
      refine lv_icmp_ne (tgt := 104) hx hb dX11_spread_97 (by decide) (fun q_9 => ?_) (fun q_9 => ?_)
      · have hf := x_iN hf q_9
        refine lv_iload_n hx hb dX11_spread_104 rfl (lv_at hl 1 rfl) ?_
        refine lv_iload_n hx hb dX11_spread_105 rfl (lv_at hl 0 rfl) ?_
        refine lv_isub hx hb dX11_spread_106 ?_
        exact ret hf dX11_spread_107 hw
      · have hf := x_iP hf q_9
        refine lv_iconst (v := (0 : Int32)) hx hb dX11_spread_100 (by decide) ?_
        refine lv_goto (tgt := 107) hx hb dX11_spread_101 (by decide) ?_
        exact ret hf dX11_spread_107 hw
    have hL_43 : ∀ (n_14 : Nat) (H : Heap) (locs : List Loc) (M_13 : xM) (x2_10 : Int32) (x3_11 : Int32) (x4_12 : Int32) (ls : Array Slot) , lv_has ls 6 [(0, .ref (g.2.2.1 0)), (1, .int a1), (2, .int x2_10), (3, .int x3_11), (4, .int x4_12)] → x_w g 1 s H locs M_13 → fX11_spread_L19 a1 k95_7 n_14 M_13 x2_10 x3_11 x4_12 = some (r, M') → W p l e (x_rm 4 104) s m args below meth c H locs 0 0 Q (F0 m 19 ls []) := by
      intro n_14
      induction n_14 with
      | zero =>
        intro H locs M_13 x2_10 x3_11 x4_12 ls  hl hw hf
        rw [fX11_spread_L19] at hf
        cases hf
      | succ n_14 ih_15 =>
        intro H locs M_13 x2_10 x3_11 x4_12 ls  hl hw hf
        rw [fX11_spread_L19] at hf
        refine lv_iload hx hb dX11_spread_19 (lv_at hl 4 rfl) ?_
        refine lv_aload_n hx hb dX11_spread_21 rfl (lv_at hl 0 rfl) ?_
        refine fg_X11_7 (k2 := 1) C hw ic1_0 rfl dX11_spread_22 ?_
        refine lv_bipush (v := (20 : Int32)) hx hb dX11_spread_25 (by decide) ?_
        refine x_ald (j := 20) C hw ic1_1 (x_inl rfl) rfl dX11_spread_27 ?_
        refine lv_icmp_ge (tgt := 95) hx hb dX11_spread_28 (by decide) (fun q_17 => ?_) (fun q_17 => ?_)
        · have hf := x_iP hf q_17
          exact hk95_7 _ _ _ _ _ _ (lv_sub hl [2, 3] rfl) hw hf
        · have hf := x_iN hf q_17
          refine lv_aload_n hx hb dX11_spread_31 rfl (lv_at hl 0 rfl) ?_
          refine lv_iload hx hb dX11_spread_32 (lv_at hl 4 rfl) ?_
          refine lv_iload_n hx hb dX11_spread_34 rfl (lv_at hl 1 rfl) ?_
          obtain ⟨k53_19, ek53_19, hf⟩ := x_jE hf
          have hk53_19 : ∀ (H : Heap) (locs : List Loc) (M_20 : xM) (z_18 : Int32) (ls : Array Slot) , lv_has ls 6 [(0, .ref (g.2.2.1 0)), (1, .int a1), (2, .int x2_10), (3, .int x3_11), (4, .int x4_12)] → x_w g 1 s H locs M_20 → k53_19 M_20 z_18 = some (r, M') → W p l e (x_rm 4 104) s m args below meth c H locs 0 0 Q (F0 m 53 ls [.int z_18, .int x4_12, .ref (g.2.2.1 0)]) := by
            intro H locs M_20 z_18 ls  hl hw hf
            rw [ek53_19] at hf
            obtain ⟨tv_23, tM_21, c_22, hf⟩ := x_bE hf
            refine x_vI C hw hl.1 [.int x4_12, .int z_18] [] (mX11_share l g c_22) lk_X11_227 ic1_0 (by decide) rfl (by decide) rfl (Nat.le_of_ble_eq_true rfl) ⟨Nat.zero_le _, Nat.zero_le _⟩ dX11_spread_53 (fun v_23 M_21 H locs hN hw => ?_)
            obtain ⟨rfl, rfl⟩ := hN
            refine lv_istore (lv' := [(5, .int v_23), (0, .ref (g.2.2.1 0)), (1, .int a1), (2, .int x2_10), (3, .int x3_11), (4, .int x4_12)]) hx hb dX11_spread_56 hl (by decide) rfl (fun ls hl => ?_)
            refine lv_iload_n hx hb dX11_spread_58 rfl (lv_at hl 3 rfl) ?_
            refine lv_iconst (v := (-1 : Int32)) hx hb dX11_spread_59 (by decide) ?_
            obtain ⟨k75_25, ek75_25, hf⟩ := x_jE hf
            have hk75_25 : ∀ (H : Heap) (locs : List Loc) (M_26 : xM) (z_24 : Int32) (ls : Array Slot) , lv_has ls 6 [(5, .int v_23), (0, .ref (g.2.2.1 0)), (1, .int a1), (3, .int x3_11), (4, .int x4_12)] → x_w g 1 s H locs M_26 → k75_25 M_26 z_24 = some (r, M') → W p l e (x_rm 4 104) s m args below meth c H locs 0 0 Q (F0 m 75 ls [.int z_24]) := by
              intro H locs M_26 z_24 ls  hl hw hf
              rw [ek75_25] at hf
              refine lv_istore_n (lv' := [(2, .int z_24), (5, .int v_23), (0, .ref (g.2.2.1 0)), (1, .int a1), (3, .int x3_11), (4, .int x4_12)]) hx hb dX11_spread_75 rfl hl (by decide) rfl (fun ls hl => ?_)
              refine lv_iload hx hb dX11_spread_76 (lv_at hl 1 rfl) ?_
              refine lv_iload_n hx hb dX11_spread_78 rfl (lv_at hl 4 rfl) ?_
              obtain ⟨k88_28, ek88_28, hf⟩ := x_jE hf
              have hk88_28 : ∀ (H : Heap) (locs : List Loc) (M_29 : xM) (z_27 : Int32) (ls : Array Slot) , lv_has ls 6 [(2, .int z_24), (0, .ref (g.2.2.1 0)), (1, .int a1), (4, .int x4_12)] → x_w g 1 s H locs M_29 → k88_28 M_29 z_27 = some (r, M') → W p l e (x_rm 4 104) s m args below meth c H locs 0 0 Q (F0 m 88 ls [.int z_27]) := by
                intro H locs M_29 z_27 ls  hl hw hf
                rw [ek88_28] at hf
                refine lv_istore_n (lv' := [(3, .int z_27), (2, .int z_24), (0, .ref (g.2.2.1 0)), (1, .int a1), (4, .int x4_12)]) hx hb dX11_spread_88 rfl hl (by decide) rfl (fun ls hl => ?_)
                obtain ⟨x4_30, ex4_30⟩ : ∃ z : Int32, z = (x4_12 + (1 : Int32)) := ⟨_, rfl⟩
                have hf := x_lE ex4_30 hf
                refine lv_iinc (v := x4_30) (lv' := [(4, .int x4_30), (3, .int z_27), (2, .int z_24), (0, .ref (g.2.2.1 0)), (1, .int a1)]) hx hb dX11_spread_89 hl (k := 4) rfl (by rw [ex4_30]; rfl) (by decide) rfl (fun ls hl => ?_)
                refine lv_goto (tgt := 19) hx hb dX11_spread_92 (by decide) ?_
                exact ih_15 _ _ _ _ _ _ _ (lv_sub hl [3, 4, 2, 1, 0] rfl) hw hf
              refine lv_icmp_le (tgt := 87) hx hb dX11_spread_79 (by decide) (fun q_31 => ?_) (fun q_31 => ?_)
              · have hf := x_iP hf q_31
                refine lv_iload_n hx hb dX11_spread_87 rfl (lv_at hl 4 rfl) ?_
                exact hk88_28 _ _ _ _ _ (lv_sub hl [0, 2, 3, 5] rfl) hw hf
              · have hf := x_iN hf q_31
                refine lv_iload hx hb dX11_spread_82 (lv_at hl 1 rfl) ?_
                refine lv_goto (tgt := 88) hx hb dX11_spread_84 (by decide) ?_
                exact hk88_28 _ _ _ _ _ (lv_sub hl [0, 2, 3, 5] rfl) hw hf
            obtain ⟨k69_32, ek69_32, hf⟩ := x_jE hf
            have hk69_32 : ∀ (H : Heap) (locs : List Loc) (M_33 : xM)  (ls : Array Slot) , lv_has ls 6 [(5, .int v_23), (0, .ref (g.2.2.1 0)), (1, .int a1), (3, .int x3_11), (4, .int x4_12)] → x_w g 1 s H locs M_33 → k69_32 M_33 = some (r, M') → W p l e (x_rm 4 104) s m args below meth c H locs 0 0 Q (F0 m 69 ls []) := by
              intro H locs M_33  ls  hl hw hf
              rw [ek69_32] at hf
              refine lv_iload hx hb dX11_spread_69 (lv_at hl 0 rfl) ?_
              refine lv_goto (tgt := 75) hx hb dX11_spread_71 (by decide) ?_
              exact hk75_25 _ _ _ _ _ (lv_sub hl [0, 1, 2, 3, 4] rfl) hw hf
            refine lv_icmp_eq (tgt := 69) hx hb dX11_spread_60 (by decide) (fun q_34 => ?_) (fun q_34 => ?_)
            · have hf := x_iP hf q_34
              exact hk69_32 _ _ _ _ (lv_sub hl [0, 1, 2, 4, 5] rfl) hw hf
            · have hf := x_iN hf q_34
              refine lv_iload hx hb dX11_spread_63 (lv_at hl 0 rfl) ?_
              refine lv_iload_n hx hb dX11_spread_65 rfl (lv_at hl 3 rfl) ?_
              refine lv_icmp_ge (tgt := 74) hx hb dX11_spread_66 (by decide) (fun q_35 => ?_) (fun q_35 => ?_)
              · have hf := x_iP hf q_35
                refine lv_iload_n hx hb dX11_spread_74 rfl (lv_at hl 3 rfl) ?_
                exact hk75_25 _ _ _ _ _ (lv_sub hl [0, 1, 2, 4, 5] rfl) hw hf
              · have hf := x_iN hf q_35
                exact hk69_32 _ _ _ _ (lv_sub hl [0, 1, 2, 4, 5] rfl) hw hf
          refine lv_if_ne (tgt := 47) hx hb dX11_spread_35 (by decide) (fun q_36 => ?_) (fun q_36 => ?_)
          · have hf := x_iN hf q_36
            refine lv_aload_n hx hb dX11_spread_47 rfl (lv_at hl 0 rfl) ?_
            refine lv_iload hx hb dX11_spread_48 (lv_at hl 4 rfl) ?_
            obtain ⟨tv_39, tM_37, c_38, hf⟩ := x_bE hf
            refine x_vI C hw hl.1 [.int x4_12] [.int x4_12, .ref (g.2.2.1 0)] (mX11_flatOf l g c_38) lk_X11_230 ic1_0 (by decide) rfl (by decide) rfl (Nat.le_of_ble_eq_true rfl) ⟨Nat.zero_le _, Nat.zero_le _⟩ dX11_spread_50 (fun v_39 M_37 H locs hN hw => ?_)
            obtain ⟨rfl, rfl⟩ := hN
            exact hk53_19 _ _ _ _ _ (lv_sub hl [0, 1, 2, 3, 4] rfl) hw hf
          · have hf := x_iP hf q_36
            refine lv_aload_n hx hb dX11_spread_38 rfl (lv_at hl 0 rfl) ?_
            refine lv_iload hx hb dX11_spread_39 (lv_at hl 4 rfl) ?_
            obtain ⟨tv_42, tM_40, c_41, hf⟩ := x_bE hf
            refine x_vI C hw hl.1 [.int x4_12] [.int x4_12, .ref (g.2.2.1 0)] (mX11_fine l g c_41) lk_X11_207 ic1_0 (by decide) rfl (by decide) rfl (Nat.le_of_ble_eq_true rfl) ⟨Nat.zero_le _, Nat.zero_le _⟩ dX11_spread_41 (fun v_42 M_40 H locs hN hw => ?_)
            obtain ⟨rfl, rfl⟩ := hN
            refine lv_goto (tgt := 53) hx hb dX11_spread_44 (by decide) ?_
            exact hk53_19 _ _ _ _ _ (lv_sub hl [0, 1, 2, 3, 4] rfl) hw hf
    exact hL_43 _ _ _ _ _ _ _ _ (lv_sub hl [3, 4, 2, 1, 0] rfl) hw hf
  · have hf := x_iP hf q_4
    refine lv_ldc hx hb hown (hB _ mk_X11_60) dX11_spread_9 ?_
    exact ret hf dX11_spread_11 hw
noncomputable def fX11_slip_L39 (a2 : Int32) (k113_12 : xM → Int64 → Option (Int32 × xM)) (k76_31 : xM → Int32 → Option (Int32 × xM)) : Nat → xM → Int64 → Int32 → Option (Int32 × xM)
  | 0, _, _, _ => none
  | n_36 + 1, M_35, x3_33, x5_34 => x_g a2 2 (if (M_35 14 a2.toNatClampNeg) ≤ x5_34 then (k113_12 M_35 x3_33) else (x_g (((24 : Int32) * a2) + x5_34) 48 (x_l (M_35 13 (((24 : Int32) * a2) + x5_34).toNatClampNeg) fun x6_41 => x_l (fun (M_44 : xM) => x_l (fun (M_48 : xM) (z_46 : Int64) => x_l (x3_33 + z_46) fun x3_49 => x_l (x5_34 + (1 : Int32)) fun x5_50 => fX11_slip_L39 a2 k113_12 k76_31 n_36 M_48 x3_49 x5_50) fun k105_47 => if (x5_34 - x5_34 / (2 : Int32) * (2 : Int32)) = 0 then (k105_47 M_44 (x6_41.toInt64)) else (k105_47 M_44 (0 : Int64))) fun k90_43 => if (x5_34 - x5_34 / (2 : Int32) * (2 : Int32)) = 0 then (if 0 ≤ x6_41 then (k90_43 M_35) else (k76_31 M_35 x5_34)) else (if (lg_cmp (x6_41.toInt64) x3_33) = 0 then (k90_43 M_35) else (some (x5_34, M_35))))))
noncomputable def fX11_slip (M : xM) (a1 : Int32) (a2 : Int32) : Option (Int32 × xM) := x_b (fX11_isPerson M a1) fun v_3 M_1 => if v_3 = 0 then (some ((-1000000001 : Int32), M_1)) else (x_b (fX11_in M_1 a2 (0 : Int32) (1 : Int32)) fun v_7 M_5 => if v_7 = 0 then (some ((-1000000001 : Int32), M_5)) else (x_g a2 2 (if (M_5 14 a2.toNatClampNeg) = (-1 : Int32) then (some ((-1000000011 : Int32), M_5)) else (x_l (fun (M_13 : xM) (x3_11 : Int64) => x_b (fX11_whatOf M_13 a1 (0 : Int32) (M_13 1 0) (M_13 1 0)) fun v_18 M_16 => x_l (x3_11 - ((12 : Int64) * (v_18.toInt64))) fun x5_19 => x_g a2 2 (x_l (fun (M_22 : xM) => some ((-1000000005 : Int32), M_22)) fun k185_21 => if (M_16 14 a2.toNatClampNeg) = (24 : Int32) then (x_l (fun (M_26 : xM) => some ((23 : Int32), M_26)) fun k180_25 => if 0 < (lg_cmp x5_19 ((M_16 1 16).toInt64)) then (k180_25 M_16) else (if 0 ≤ (lg_cmp x5_19 ((-(M_16 1 16)).toInt64)) then (k185_21 M_16) else (k180_25 M_16))) else (k185_21 M_16))) fun k113_12 => x_l (fun (M_32 : xM) (x5_30 : Int32) => some (x5_30, M_32)) fun k76_31 => fX11_slip_L39 a2 k113_12 k76_31 x_FU M_5 (0 : Int64) (0 : Int32)))))
set_option maxRecDepth 100000 in
set_option maxHeartbeats 4000000 in
theorem mX11_slip (l : Launch) (g : xG) {a1 : Int32} {a2 : Int32} {r : Int32} {M' : xM}  {M : xM} (hf : fX11_slip M a1 a2 = some (r, M')) : x_cI l g 1 yX11_slip cX11_slip 7 .int 2 43 [.ref (g.2.2.1 0), .int a1, .int a2] M (fun v N => v = r ∧ N = M') := by
  refine x_stI RX11 (by decide) rfl (Nat.le_of_ble_eq_true rfl) ?_
  intro p e s m args below meth c Q ls C hw ret hl
  obtain ⟨hx, hb, hml, hown, hB, -⟩ := id C
  have hl : lv_has ls 7 [(0, .ref (g.2.2.1 0)), (1, .int a1), (2, .int a2)] := hl
  unfold fX11_slip at hf
  refine lv_aload_n hx hb dX11_slip_0 rfl (lv_at hl 0 rfl) ?_
  refine lv_iload_n hx hb dX11_slip_1 rfl (lv_at hl 1 rfl) ?_
  obtain ⟨tv_3, tM_1, c_2, hf⟩ := x_bE hf
  refine x_vI C hw hl.1 [.int a1] [] (mX11_isPerson l g c_2) lk_X11_62 ic1_0 (by decide) rfl (by decide) rfl (Nat.le_of_ble_eq_true rfl) ⟨Nat.zero_le _, Nat.zero_le _⟩ dX11_slip_2 (fun v_3 M_1 H locs hN hw => ?_)
  obtain ⟨rfl, rfl⟩ := hN
  refine lv_if_eq (tgt := 17) hx hb dX11_slip_5 (by decide) (fun q_4 => ?_) (fun q_4 => ?_)
  · have hf := x_iP hf q_4
    refine lv_ldc hx hb hown (hB _ mk_X11_60) dX11_slip_17 ?_
    exact ret hf dX11_slip_19 hw
  · have hf := x_iN hf q_4
    refine lv_iload_n hx hb dX11_slip_8 rfl (lv_at hl 2 rfl) ?_
    refine lv_iconst (v := (0 : Int32)) hx hb dX11_slip_9 (by decide) ?_
    refine lv_iconst (v := (1 : Int32)) hx hb dX11_slip_10 (by decide) ?_
    obtain ⟨tv_7, tM_5, c_6, hf⟩ := x_bE hf
    refine x_sI C hw hl.1 [.int a2, .int (0 : Int32), .int (1 : Int32)] [] (mX11_in l g c_6) lk_X11_56 (by decide) rfl (Nat.le_of_ble_eq_true rfl) ⟨Nat.zero_le _, Nat.zero_le _⟩ dX11_slip_11 (fun v_7 M_5 H locs hN hw => ?_)
    obtain ⟨rfl, rfl⟩ := hN
    refine lv_if_ne (tgt := 20) hx hb dX11_slip_14 (by decide) (fun q_8 => ?_) (fun q_8 => ?_)
    · have hf := x_iN hf q_8
      refine lv_aload_n hx hb dX11_slip_20 rfl (lv_at hl 0 rfl) ?_
      refine fg_X11_49 (k2 := 14) C hw ic1_0 rfl dX11_slip_21 ?_
      refine lv_iload_n hx hb dX11_slip_24 rfl (lv_at hl 2 rfl) ?_
      obtain ⟨q_9, hf⟩ := x_gE hf
      refine x_ald C hw ic1_14 q_9 rfl dX11_slip_25 ?_
      refine lv_iconst (v := (-1 : Int32)) hx hb dX11_slip_26 (by decide) ?_
      refine lv_icmp_ne (tgt := 34) hx hb dX11_slip_27 (by decide) (fun q_10 => ?_) (fun q_10 => ?_)
      · have hf := x_iN hf q_10
        refine lv_lconst (v := 0) hx hb dX11_slip_34 (by decide) ?_
        refine lv_lstore_n (lv' := [(3, .long (0 : Int64)), (0, .ref (g.2.2.1 0)), (1, .int a1), (2, .int a2)]) hx hb dX11_slip_35 rfl hl (by decide) rfl (fun ls hl => ?_)
        refine lv_iconst (v := (0 : Int32)) hx hb dX11_slip_36 (by decide) ?_
        refine lv_istore (lv' := [(5, .int (0 : Int32)), (3, .long (0 : Int64)), (0, .ref (g.2.2.1 0)), (1, .int a1), (2, .int a2)]) hx hb dX11_slip_37 hl (by decide) rfl (fun ls hl => ?_)
        obtain ⟨k113_12, ek113_12, hf⟩ := x_jE hf
        have hk113_12 : ∀ (H : Heap) (locs : List Loc) (M_13 : xM) (x3_11 : Int64) (ls : Array Slot) , lv_has ls 7 [(0, .ref (g.2.2.1 0)), (1, .int a1), (2, .int a2), (3, .long x3_11)] → x_w g 1 s H locs M_13 → k113_12 M_13 x3_11 = some (r, M') → W p l e (x_rm 2 43) s m args below meth c H locs 0 0 Q (F0 m 113 ls []) := by
          intro H locs M_13 x3_11 ls  hl hw hf
          rw [ek113_12] at hf
          refine lv_lload_n hx hb dX11_slip_113 rfl (lv_at hl 3 rfl) ?_
          refine lv_ldc2 hx hb hown (hB _ mkl_X11_273) dX11_slip_114 ?_
          refine lv_aload_n hx hb dX11_slip_117 rfl (lv_at hl 0 rfl) ?_
          refine lv_iload_n hx hb dX11_slip_118 rfl (lv_at hl 1 rfl) ?_
          refine lv_iconst (v := (0 : Int32)) hx hb dX11_slip_119 (by decide) ?_
          refine lv_aload_n hx hb dX11_slip_120 rfl (lv_at hl 0 rfl) ?_
          refine fg_X11_7 (k2 := 1) C hw ic1_0 rfl dX11_slip_121 ?_
          refine lv_iconst (v := (0 : Int32)) hx hb dX11_slip_124 (by decide) ?_
          refine x_ald (j := 0) C hw ic1_1 (x_inl rfl) rfl dX11_slip_125 ?_
          refine lv_aload_n hx hb dX11_slip_126 rfl (lv_at hl 0 rfl) ?_
          refine fg_X11_7 (k2 := 1) C hw ic1_0 rfl dX11_slip_127 ?_
          refine lv_iconst (v := (0 : Int32)) hx hb dX11_slip_130 (by decide) ?_
          refine x_ald (j := 0) C hw ic1_1 (x_inl rfl) rfl dX11_slip_131 ?_
          obtain ⟨tv_18, tM_16, c_17, hf⟩ := x_bE hf
          refine x_vI C hw hl.1 [.int a1, .int (0 : Int32), .int (M_13 1 0), .int (M_13 1 0)] [.long (12 : Int64), .long x3_11] (mX11_whatOf l g c_17) lk_X11_71 ic1_0 (by decide) rfl (by decide) rfl (Nat.le_of_ble_eq_true rfl) ⟨Nat.zero_le _, Nat.zero_le _⟩ dX11_slip_132 (fun v_18 M_16 H locs hN hw => ?_)
          obtain ⟨rfl, rfl⟩ := hN
          refine lv_i2l hx hb dX11_slip_135 rfl ?_
          refine lv_lmul hx hb dX11_slip_136 ?_
          refine lv_lsub hx hb dX11_slip_137 ?_
          refine lv_topl (fun x5_19 ex5_19 => ?_)
          have hf := x_lE ex5_19 hf
          refine lv_lstore (lv' := [(5, .long x5_19), (0, .ref (g.2.2.1 0)), (1, .int a1), (2, .int a2), (3, .long x3_11)]) hx hb dX11_slip_138 hl (by decide) rfl (fun ls hl => ?_)
          refine lv_aload_n hx hb dX11_slip_140 rfl (lv_at hl 1 rfl) ?_
          refine fg_X11_49 (k2 := 14) C hw ic1_0 rfl dX11_slip_141 ?_
          refine lv_iload_n hx hb dX11_slip_144 rfl (lv_at hl 3 rfl) ?_
          obtain ⟨q_20, hf⟩ := x_gE hf
          refine x_ald C hw ic1_14 q_20 rfl dX11_slip_145 ?_
          refine lv_bipush (v := (24 : Int32)) hx hb dX11_slip_146 (by decide) ?_
          obtain ⟨k185_21, ek185_21, hf⟩ := x_jE hf
          have hk185_21 : ∀ (H : Heap) (locs : List Loc) (M_22 : xM)  (ls : Array Slot) , lv_has ls 7 [] → x_w g 1 s H locs M_22 → k185_21 M_22 = some (r, M') → W p l e (x_rm 2 43) s m args below meth c H locs 0 0 Q (F0 m 185 ls []) := by
            intro H locs M_22  ls  hl hw hf
            rw [ek185_21] at hf
            refine lv_ldc hx hb hown (hB _ mk_X11_55) dX11_slip_185 ?_
            exact ret hf dX11_slip_187 hw
          refine lv_icmp_ne (tgt := 185) hx hb dX11_slip_148 (by decide) (fun q_23 => ?_) (fun q_23 => ?_)
          · have hf := x_iN hf q_23
            exact hk185_21 _ _ _ _ (lv_sub hl [] rfl) hw hf
          · have hf := x_iP hf q_23
            refine lv_lload hx hb dX11_slip_151 (lv_at hl 0 rfl) ?_
            refine lv_aload_n hx hb dX11_slip_153 rfl (lv_at hl 1 rfl) ?_
            refine fg_X11_7 (k2 := 1) C hw ic1_0 rfl dX11_slip_154 ?_
            refine lv_bipush (v := (16 : Int32)) hx hb dX11_slip_157 (by decide) ?_
            refine x_ald (j := 16) C hw ic1_1 (x_inl rfl) rfl dX11_slip_159 ?_
            refine lv_i2l hx hb dX11_slip_160 rfl ?_
            refine W.lcmp hx hb dX11_slip_161 ?_
            obtain ⟨k180_25, ek180_25, hf⟩ := x_jE hf
            have hk180_25 : ∀ (H : Heap) (locs : List Loc) (M_26 : xM)  (ls : Array Slot) , lv_has ls 7 [] → x_w g 1 s H locs M_26 → k180_25 M_26 = some (r, M') → W p l e (x_rm 2 43) s m args below meth c H locs 0 0 Q (F0 m 180 ls []) := by
              intro H locs M_26  ls  hl hw hf
              rw [ek180_25] at hf
              refine lv_bipush (v := (23 : Int32)) hx hb dX11_slip_180 (by decide) ?_
              refine lv_goto (tgt := 187) hx hb dX11_slip_182 (by decide) ?_
              exact ret hf dX11_slip_187 hw
            refine lv_if_gt (tgt := 180) hx hb dX11_slip_162 (by decide) (fun q_27 => ?_) (fun q_27 => ?_)
            · have hf := x_iP hf q_27
              exact hk180_25 _ _ _ _ (lv_sub hl [] rfl) hw hf
            · have hf := x_iN hf q_27
              refine lv_lload hx hb dX11_slip_165 (lv_at hl 0 rfl) ?_
              refine lv_aload_n hx hb dX11_slip_167 rfl (lv_at hl 1 rfl) ?_
              refine fg_X11_7 (k2 := 1) C hw ic1_0 rfl dX11_slip_168 ?_
              refine lv_bipush (v := (16 : Int32)) hx hb dX11_slip_171 (by decide) ?_
              refine x_ald (j := 16) C hw ic1_1 (x_inl rfl) rfl dX11_slip_173 ?_
              refine lv_ineg hx hb dX11_slip_174 ?_
              refine lv_i2l hx hb dX11_slip_175 rfl ?_
              refine W.lcmp hx hb dX11_slip_176 ?_
              refine lv_if_ge (tgt := 185) hx hb dX11_slip_177 (by decide) (fun q_29 => ?_) (fun q_29 => ?_)
              · have hf := x_iP hf q_29
                exact hk185_21 _ _ _ _ (lv_sub hl [] rfl) hw hf
              · have hf := x_iN hf q_29
                exact hk180_25 _ _ _ _ (lv_sub hl [] rfl) hw hf
        obtain ⟨k76_31, ek76_31, hf⟩ := x_jE hf
        have hk76_31 : ∀ (H : Heap) (locs : List Loc) (M_32 : xM) (x5_30 : Int32) (ls : Array Slot) , lv_has ls 7 [(5, .int x5_30)] → x_w g 1 s H locs M_32 → k76_31 M_32 x5_30 = some (r, M') → W p l e (x_rm 2 43) s m args below meth c H locs 0 0 Q (F0 m 76 ls []) := by
          intro H locs M_32 x5_30 ls  hl hw hf
          rw [ek76_31] at hf
          refine lv_goto (tgt := 87) hx hb dX11_slip_76 (by decide) ?_
          refine lv_iload hx hb dX11_slip_87 (lv_at hl 0 rfl) ?_
          exact ret hf dX11_slip_89 hw
        have hL_55 : ∀ (n_36 : Nat) (H : Heap) (locs : List Loc) (M_35 : xM) (x3_33 : Int64) (x5_34 : Int32) (ls : Array Slot) , lv_has ls 7 [(0, .ref (g.2.2.1 0)), (1, .int a1), (2, .int a2), (3, .long x3_33), (5, .int x5_34)] → x_w g 1 s H locs M_35 → fX11_slip_L39 a2 k113_12 k76_31 n_36 M_35 x3_33 x5_34 = some (r, M') → W p l e (x_rm 2 43) s m args below meth c H locs 0 0 Q (F0 m 39 ls []) := by
          intro n_36
          induction n_36 with
          | zero =>
            intro H locs M_35 x3_33 x5_34 ls  hl hw hf
            rw [fX11_slip_L39] at hf
            cases hf
          | succ n_36 ih_37 =>
            intro H locs M_35 x3_33 x5_34 ls  hl hw hf
            rw [fX11_slip_L39] at hf
            refine lv_iload hx hb dX11_slip_39 (lv_at hl 4 rfl) ?_
            refine lv_aload_n hx hb dX11_slip_41 rfl (lv_at hl 0 rfl) ?_
            refine fg_X11_49 (k2 := 14) C hw ic1_0 rfl dX11_slip_42 ?_
            refine lv_iload_n hx hb dX11_slip_45 rfl (lv_at hl 2 rfl) ?_
            obtain ⟨q_38, hf⟩ := x_gE hf
            refine x_ald C hw ic1_14 q_38 rfl dX11_slip_46 ?_
            refine lv_icmp_ge (tgt := 113) hx hb dX11_slip_47 (by decide) (fun q_39 => ?_) (fun q_39 => ?_)
            · have hf := x_iP hf q_39
              exact hk113_12 _ _ _ _ _ (lv_sub hl [0, 1, 2, 3] rfl) hw hf
            · have hf := x_iN hf q_39
              refine lv_aload_n hx hb dX11_slip_50 rfl (lv_at hl 0 rfl) ?_
              refine fg_X11_46 (k2 := 13) C hw ic1_0 rfl dX11_slip_51 ?_
              refine lv_bipush (v := (24 : Int32)) hx hb dX11_slip_54 (by decide) ?_
              refine lv_iload_n hx hb dX11_slip_56 rfl (lv_at hl 2 rfl) ?_
              refine lv_imul hx hb dX11_slip_57 ?_
              refine lv_iload hx hb dX11_slip_58 (lv_at hl 4 rfl) ?_
              refine lv_iadd hx hb dX11_slip_60 ?_
              obtain ⟨q_40, hf⟩ := x_gE hf
              refine x_ald C hw ic1_13 q_40 rfl dX11_slip_61 ?_
              refine lv_topi (fun x6_41 ex6_41 => ?_)
              have hf := x_lE ex6_41 hf
              refine lv_istore (lv' := [(6, .int x6_41), (0, .ref (g.2.2.1 0)), (1, .int a1), (2, .int a2), (3, .long x3_33), (5, .int x5_34)]) hx hb dX11_slip_62 hl (by decide) rfl (fun ls hl => ?_)
              refine lv_iload hx hb dX11_slip_64 (lv_at hl 5 rfl) ?_
              refine lv_iconst (v := (2 : Int32)) hx hb dX11_slip_66 (by decide) ?_
              refine lv_irem hx hb dX11_slip_67 (by decide) ?_
              obtain ⟨k90_43, ek90_43, hf⟩ := x_jE hf
              have hk90_43 : ∀ (H : Heap) (locs : List Loc) (M_44 : xM)  (ls : Array Slot) , lv_has ls 7 [(6, .int x6_41), (0, .ref (g.2.2.1 0)), (1, .int a1), (2, .int a2), (3, .long x3_33), (5, .int x5_34)] → x_w g 1 s H locs M_44 → k90_43 M_44 = some (r, M') → W p l e (x_rm 2 43) s m args below meth c H locs 0 0 Q (F0 m 90 ls []) := by
                intro H locs M_44  ls  hl hw hf
                rw [ek90_43] at hf
                refine lv_lload_n hx hb dX11_slip_90 rfl (lv_at hl 4 rfl) ?_
                refine lv_iload hx hb dX11_slip_91 (lv_at hl 5 rfl) ?_
                refine lv_iconst (v := (2 : Int32)) hx hb dX11_slip_93 (by decide) ?_
                refine lv_irem hx hb dX11_slip_94 (by decide) ?_
                obtain ⟨k105_47, ek105_47, hf⟩ := x_jE hf
                have hk105_47 : ∀ (H : Heap) (locs : List Loc) (M_48 : xM) (z_46 : Int64) (ls : Array Slot) , lv_has ls 7 [(0, .ref (g.2.2.1 0)), (1, .int a1), (2, .int a2), (5, .int x5_34)] → x_w g 1 s H locs M_48 → k105_47 M_48 z_46 = some (r, M') → W p l e (x_rm 2 43) s m args below meth c H locs 0 0 Q (F0 m 105 ls [.long z_46, .long x3_33]) := by
                  intro H locs M_48 z_46 ls  hl hw hf
                  rw [ek105_47] at hf
                  refine lv_ladd hx hb dX11_slip_105 ?_
                  refine lv_topl (fun x3_49 ex3_49 => ?_)
                  have hf := x_lE ex3_49 hf
                  refine lv_lstore_n (lv' := [(3, .long x3_49), (0, .ref (g.2.2.1 0)), (1, .int a1), (2, .int a2), (5, .int x5_34)]) hx hb dX11_slip_106 rfl hl (by decide) rfl (fun ls hl => ?_)
                  obtain ⟨x5_50, ex5_50⟩ : ∃ z : Int32, z = (x5_34 + (1 : Int32)) := ⟨_, rfl⟩
                  have hf := x_lE ex5_50 hf
                  refine lv_iinc (v := x5_50) (lv' := [(5, .int x5_50), (3, .long x3_49), (0, .ref (g.2.2.1 0)), (1, .int a1), (2, .int a2)]) hx hb dX11_slip_107 hl (k := 4) rfl (by rw [ex5_50]; rfl) (by decide) rfl (fun ls hl => ?_)
                  refine lv_goto (tgt := 39) hx hb dX11_slip_110 (by decide) ?_
                  exact ih_37 _ _ _ _ _ _ (lv_sub hl [2, 3, 4, 1, 0] rfl) hw hf
                refine lv_if_ne (tgt := 104) hx hb dX11_slip_95 (by decide) (fun q_51 => ?_) (fun q_51 => ?_)
                · have hf := x_iN hf q_51
                  refine lv_lconst (v := 0) hx hb dX11_slip_104 (by decide) ?_
                  exact hk105_47 _ _ _ _ _ (lv_sub hl [1, 2, 3, 5] rfl) hw hf
                · have hf := x_iP hf q_51
                  refine lv_iload hx hb dX11_slip_98 (lv_at hl 0 rfl) ?_
                  refine lv_i2l hx hb dX11_slip_100 rfl ?_
                  refine lv_goto (tgt := 105) hx hb dX11_slip_101 (by decide) ?_
                  exact hk105_47 _ _ _ _ _ (lv_sub hl [1, 2, 3, 5] rfl) hw hf
              refine lv_if_ne (tgt := 79) hx hb dX11_slip_68 (by decide) (fun q_52 => ?_) (fun q_52 => ?_)
              · have hf := x_iN hf q_52
                refine lv_iload hx hb dX11_slip_79 (lv_at hl 0 rfl) ?_
                refine lv_i2l hx hb dX11_slip_81 rfl ?_
                refine lv_lload_n hx hb dX11_slip_82 rfl (lv_at hl 4 rfl) ?_
                refine W.lcmp hx hb dX11_slip_83 ?_
                refine lv_if_eq (tgt := 90) hx hb dX11_slip_84 (by decide) (fun q_53 => ?_) (fun q_53 => ?_)
                · have hf := x_iP hf q_53
                  exact hk90_43 _ _ _ _ (lv_sub hl [0, 1, 2, 3, 4, 5] rfl) hw hf
                · have hf := x_iN hf q_53
                  refine lv_iload hx hb dX11_slip_87 (lv_at hl 5 rfl) ?_
                  exact ret hf dX11_slip_89 hw
              · have hf := x_iP hf q_52
                refine lv_iload hx hb dX11_slip_71 (lv_at hl 0 rfl) ?_
                refine lv_if_ge (tgt := 90) hx hb dX11_slip_73 (by decide) (fun q_54 => ?_) (fun q_54 => ?_)
                · have hf := x_iP hf q_54
                  exact hk90_43 _ _ _ _ (lv_sub hl [0, 1, 2, 3, 4, 5] rfl) hw hf
                · have hf := x_iN hf q_54
                  exact hk76_31 _ _ _ _ _ (lv_sub hl [5] rfl) hw hf
        exact hL_55 _ _ _ _ _ _ _ (lv_sub hl [2, 3, 4, 1, 0] rfl) hw hf
      · have hf := x_iP hf q_10
        refine lv_ldcw hx hb hown (hB _ mk_X11_272) dX11_slip_30 ?_
        exact ret hf dX11_slip_33 hw
    · have hf := x_iP hf q_8
      refine lv_ldc hx hb hown (hB _ mk_X11_60) dX11_slip_17 ?_
      exact ret hf dX11_slip_19 hw
noncomputable def fX11_keep_L2 (k27_1 : xM → Option (Int32 × xM)) : Nat → xM → Int32 → Option (Int32 × xM)
  | 0, _, _ => none
  | n_7 + 1, M_6, x1_5 => if (1675 : Int32) ≤ x1_5 then (k27_1 M_6) else (x_g x1_5 1675 (x_g x1_5 1675 (x_l (x_up M_6 2 x1_5.toNatClampNeg (M_6 1 x1_5.toNatClampNeg)) fun M_12 => x_l (x1_5 + (1 : Int32)) fun x1_13 => fX11_keep_L2 k27_1 n_7 M_12 x1_13)))
noncomputable def fX11_keep (M : xM)  : Option (Int32 × xM) := x_l (fun (M_2 : xM) => x_l (x_up M_2 0 2 (1 : Int32)) fun M_3 => some ((M_3 1 0), M_3)) fun k27_1 => fX11_keep_L2 k27_1 x_FU M (0 : Int32)
set_option maxRecDepth 100000 in
set_option maxHeartbeats 4000000 in
theorem mX11_keep (l : Launch) (g : xG)  {r : Int32} {M' : xM}  {M : xM} (hf : fX11_keep M  = some (r, M')) : x_cI l g 1 yX11_keep cX11_keep 2 .int 0 0 [.ref (g.2.2.1 0)] M (fun v N => v = r ∧ N = M') := by
  refine x_stI RX11 (by decide) rfl (Nat.le_of_ble_eq_true rfl) ?_
  intro p e s m args below meth c Q ls C hw ret hl
  obtain ⟨hx, hb, hml, hown, hB, -⟩ := id C
  have hl : lv_has ls 2 [(0, .ref (g.2.2.1 0))] := hl
  unfold fX11_keep at hf
  refine lv_iconst (v := (0 : Int32)) hx hb dX11_keep_0 (by decide) ?_
  refine lv_istore_n (lv' := [(1, .int (0 : Int32)), (0, .ref (g.2.2.1 0))]) hx hb dX11_keep_1 rfl hl (by decide) rfl (fun ls hl => ?_)
  obtain ⟨k27_1, ek27_1, hf⟩ := x_jE hf
  have hk27_1 : ∀ (H : Heap) (locs : List Loc) (M_2 : xM)  (ls : Array Slot) , lv_has ls 2 [(0, .ref (g.2.2.1 0))] → x_w g 1 s H locs M_2 → k27_1 M_2 = some (r, M') → W p l e (x_rm 0 0) s m args below meth c H locs 0 0 Q (F0 m 27 ls []) := by
    intro H locs M_2  ls  hl hw hf
    rw [ek27_1] at hf
    refine lv_aload_n hx hb dX11_keep_27 rfl (lv_at hl 0 rfl) ?_
    refine lv_iconst (v := (1 : Int32)) hx hb dX11_keep_28 (by decide) ?_
    refine fp_X11_275 C hw (⟨rfl, rfl⟩ : _ ∧ _) ic1_0 dX11_keep_29 (fun H locs hw => ?_)
    obtain ⟨M_3, eM_3⟩ : ∃ z, z = (x_up M_2 0 2 (1 : Int32)) := ⟨_, rfl⟩
    rw [← eM_3] at hw
    have hf := x_lE eM_3 hf
    refine lv_aload_n hx hb dX11_keep_32 rfl (lv_at hl 0 rfl) ?_
    refine fg_X11_7 (k2 := 1) C hw ic1_0 rfl dX11_keep_33 ?_
    refine lv_iconst (v := (0 : Int32)) hx hb dX11_keep_36 (by decide) ?_
    refine x_ald (j := 0) C hw ic1_1 (x_inl rfl) rfl dX11_keep_37 ?_
    exact ret hf dX11_keep_38 hw
  have hL_14 : ∀ (n_7 : Nat) (H : Heap) (locs : List Loc) (M_6 : xM) (x1_5 : Int32) (ls : Array Slot) , lv_has ls 2 [(0, .ref (g.2.2.1 0)), (1, .int x1_5)] → x_w g 1 s H locs M_6 → fX11_keep_L2 k27_1 n_7 M_6 x1_5 = some (r, M') → W p l e (x_rm 0 0) s m args below meth c H locs 0 0 Q (F0 m 2 ls []) := by
    intro n_7
    induction n_7 with
    | zero =>
      intro H locs M_6 x1_5 ls  hl hw hf
      rw [fX11_keep_L2] at hf
      cases hf
    | succ n_7 ih_8 =>
      intro H locs M_6 x1_5 ls  hl hw hf
      rw [fX11_keep_L2] at hf
      refine lv_iload_n hx hb dX11_keep_2 rfl (lv_at hl 1 rfl) ?_
      refine lv_sipush (v := (1675 : Int32)) hx hb dX11_keep_3 (by decide) ?_
      refine lv_icmp_ge (tgt := 27) hx hb dX11_keep_6 (by decide) (fun q_9 => ?_) (fun q_9 => ?_)
      · have hf := x_iP hf q_9
        exact hk27_1 _ _ _ _ (lv_sub hl [0] rfl) hw hf
      · have hf := x_iN hf q_9
        refine lv_aload_n hx hb dX11_keep_9 rfl (lv_at hl 0 rfl) ?_
        refine fg_X11_13 (k2 := 2) C hw ic1_0 rfl dX11_keep_10 ?_
        refine lv_iload_n hx hb dX11_keep_13 rfl (lv_at hl 1 rfl) ?_
        refine lv_aload_n hx hb dX11_keep_14 rfl (lv_at hl 0 rfl) ?_
        refine fg_X11_7 (k2 := 1) C hw ic1_0 rfl dX11_keep_15 ?_
        refine lv_iload_n hx hb dX11_keep_18 rfl (lv_at hl 1 rfl) ?_
        obtain ⟨q_10, hf⟩ := x_gE hf
        refine x_ald C hw ic1_1 q_10 rfl dX11_keep_19 ?_
        obtain ⟨q_11, hf⟩ := x_gE hf
        refine x_ast C hw ic1_2 q_11 rfl dX11_keep_20 (fun H locs hw => ?_)
        obtain ⟨M_12, eM_12⟩ : ∃ z, z = (x_up M_6 2 x1_5.toNatClampNeg (M_6 1 x1_5.toNatClampNeg)) := ⟨_, rfl⟩
        rw [← eM_12] at hw
        have hf := x_lE eM_12 hf
        obtain ⟨x1_13, ex1_13⟩ : ∃ z : Int32, z = (x1_5 + (1 : Int32)) := ⟨_, rfl⟩
        have hf := x_lE ex1_13 hf
        refine lv_iinc (v := x1_13) (lv' := [(1, .int x1_13), (0, .ref (g.2.2.1 0))]) hx hb dX11_keep_21 hl (k := 1) rfl (by rw [ex1_13]; rfl) (by decide) rfl (fun ls hl => ?_)
        refine lv_goto (tgt := 2) hx hb dX11_keep_24 (by decide) ?_
        exact ih_8 _ _ _ _ _ (lv_sub hl [1, 0] rfl) hw hf
  exact hL_14 _ _ _ _ _ _ (lv_sub hl [1, 0] rfl) hw hf
noncomputable def fX11_again_L12 (k37_2 : xM → Option (Int32 × xM)) : Nat → xM → Int32 → Option (Int32 × xM)
  | 0, _, _ => none
  | n_7 + 1, M_6, x1_5 => if (1675 : Int32) ≤ x1_5 then (k37_2 M_6) else (x_g x1_5 1675 (x_g x1_5 1675 (x_l (x_up M_6 1 x1_5.toNatClampNeg (M_6 2 x1_5.toNatClampNeg)) fun M_12 => x_l (x1_5 + (1 : Int32)) fun x1_13 => fX11_again_L12 k37_2 n_7 M_12 x1_13)))
noncomputable def fX11_again (M : xM)  : Option (Int32 × xM) := if (M 0 2) = 0 then (some ((-1000000002 : Int32), M)) else (x_l (fun (M_3 : xM) => some ((M_3 1 0), M_3)) fun k37_2 => fX11_again_L12 k37_2 x_FU M (0 : Int32))
set_option maxRecDepth 100000 in
set_option maxHeartbeats 4000000 in
theorem mX11_again (l : Launch) (g : xG)  {r : Int32} {M' : xM}  {M : xM} (hf : fX11_again M  = some (r, M')) : x_cI l g 1 yX11_again cX11_again 2 .int 0 0 [.ref (g.2.2.1 0)] M (fun v N => v = r ∧ N = M') := by
  refine x_stI RX11 (by decide) rfl (Nat.le_of_ble_eq_true rfl) ?_
  intro p e s m args below meth c Q ls C hw ret hl
  obtain ⟨hx, hb, hml, hown, hB, -⟩ := id C
  have hl : lv_has ls 2 [(0, .ref (g.2.2.1 0))] := hl
  unfold fX11_again at hf
  refine lv_aload_n hx hb dX11_again_0 rfl (lv_at hl 0 rfl) ?_
  refine fg_X11_275 C hw ic1_0 dX11_again_1 ?_
  refine lv_if_ne (tgt := 10) hx hb dX11_again_4 (by decide) (fun q_1 => ?_) (fun q_1 => ?_)
  · have hf := x_iN hf q_1
    refine lv_iconst (v := (0 : Int32)) hx hb dX11_again_10 (by decide) ?_
    refine lv_istore_n (lv' := [(1, .int (0 : Int32)), (0, .ref (g.2.2.1 0))]) hx hb dX11_again_11 rfl hl (by decide) rfl (fun ls hl => ?_)
    obtain ⟨k37_2, ek37_2, hf⟩ := x_jE hf
    have hk37_2 : ∀ (H : Heap) (locs : List Loc) (M_3 : xM)  (ls : Array Slot) , lv_has ls 2 [(0, .ref (g.2.2.1 0))] → x_w g 1 s H locs M_3 → k37_2 M_3 = some (r, M') → W p l e (x_rm 0 0) s m args below meth c H locs 0 0 Q (F0 m 37 ls []) := by
      intro H locs M_3  ls  hl hw hf
      rw [ek37_2] at hf
      refine lv_aload_n hx hb dX11_again_37 rfl (lv_at hl 0 rfl) ?_
      refine fg_X11_7 (k2 := 1) C hw ic1_0 rfl dX11_again_38 ?_
      refine lv_iconst (v := (0 : Int32)) hx hb dX11_again_41 (by decide) ?_
      refine x_ald (j := 0) C hw ic1_1 (x_inl rfl) rfl dX11_again_42 ?_
      exact ret hf dX11_again_43 hw
    have hL_14 : ∀ (n_7 : Nat) (H : Heap) (locs : List Loc) (M_6 : xM) (x1_5 : Int32) (ls : Array Slot) , lv_has ls 2 [(0, .ref (g.2.2.1 0)), (1, .int x1_5)] → x_w g 1 s H locs M_6 → fX11_again_L12 k37_2 n_7 M_6 x1_5 = some (r, M') → W p l e (x_rm 0 0) s m args below meth c H locs 0 0 Q (F0 m 12 ls []) := by
      intro n_7
      induction n_7 with
      | zero =>
        intro H locs M_6 x1_5 ls  hl hw hf
        rw [fX11_again_L12] at hf
        cases hf
      | succ n_7 ih_8 =>
        intro H locs M_6 x1_5 ls  hl hw hf
        rw [fX11_again_L12] at hf
        refine lv_iload_n hx hb dX11_again_12 rfl (lv_at hl 1 rfl) ?_
        refine lv_sipush (v := (1675 : Int32)) hx hb dX11_again_13 (by decide) ?_
        refine lv_icmp_ge (tgt := 37) hx hb dX11_again_16 (by decide) (fun q_9 => ?_) (fun q_9 => ?_)
        · have hf := x_iP hf q_9
          exact hk37_2 _ _ _ _ (lv_sub hl [0] rfl) hw hf
        · have hf := x_iN hf q_9
          refine lv_aload_n hx hb dX11_again_19 rfl (lv_at hl 0 rfl) ?_
          refine fg_X11_7 (k2 := 1) C hw ic1_0 rfl dX11_again_20 ?_
          refine lv_iload_n hx hb dX11_again_23 rfl (lv_at hl 1 rfl) ?_
          refine lv_aload_n hx hb dX11_again_24 rfl (lv_at hl 0 rfl) ?_
          refine fg_X11_13 (k2 := 2) C hw ic1_0 rfl dX11_again_25 ?_
          refine lv_iload_n hx hb dX11_again_28 rfl (lv_at hl 1 rfl) ?_
          obtain ⟨q_10, hf⟩ := x_gE hf
          refine x_ald C hw ic1_2 q_10 rfl dX11_again_29 ?_
          obtain ⟨q_11, hf⟩ := x_gE hf
          refine x_ast C hw ic1_1 q_11 rfl dX11_again_30 (fun H locs hw => ?_)
          obtain ⟨M_12, eM_12⟩ : ∃ z, z = (x_up M_6 1 x1_5.toNatClampNeg (M_6 2 x1_5.toNatClampNeg)) := ⟨_, rfl⟩
          rw [← eM_12] at hw
          have hf := x_lE eM_12 hf
          obtain ⟨x1_13, ex1_13⟩ : ∃ z : Int32, z = (x1_5 + (1 : Int32)) := ⟨_, rfl⟩
          have hf := x_lE ex1_13 hf
          refine lv_iinc (v := x1_13) (lv' := [(1, .int x1_13), (0, .ref (g.2.2.1 0))]) hx hb dX11_again_31 hl (k := 1) rfl (by rw [ex1_13]; rfl) (by decide) rfl (fun ls hl => ?_)
          refine lv_goto (tgt := 12) hx hb dX11_again_34 (by decide) ?_
          exact ih_8 _ _ _ _ _ (lv_sub hl [1, 0] rfl) hw hf
    exact hL_14 _ _ _ _ _ _ (lv_sub hl [1, 0] rfl) hw hf
  · have hf := x_iP hf q_1
    refine lv_ldc hx hb hown (hB _ mk_X11_69) dX11_again_7 ?_
    exact ret hf dX11_again_9 hw
noncomputable def fX11_sheet_L35 (a1 : Int32) (a2 : Int32) : Nat → xM → Int32 → Option (Int32 × xM)
  | 0, _, _ => none
  | n_11 + 1, M_10, x3_9 => if a2 ≤ x3_9 then (some (a2, M_10)) else (x_g (((24 : Int32) * a1) + x3_9) 48 (x_l (x_up M_10 13 (((24 : Int32) * a1) + x3_9).toNatClampNeg (0 : Int32)) fun M_15 => x_l (x3_9 + (1 : Int32)) fun x3_16 => fX11_sheet_L35 a1 a2 n_11 M_15 x3_16))
noncomputable def fX11_sheet (M : xM) (a1 : Int32) (a2 : Int32) : Option (Int32 × xM) := x_b (fX11_in M a1 (0 : Int32) (1 : Int32)) fun v_3 M_1 => if v_3 = 0 then (some ((-1000000001 : Int32), M_1)) else (if a2 ≤ (24 : Int32) then (if 0 ≤ a2 then (x_g a1 2 (x_l (x_up M_1 14 a1.toNatClampNeg a2) fun M_8 => fX11_sheet_L35 a1 a2 x_FU M_8 (0 : Int32))) else (some ((-1000000014 : Int32), M_1))) else (some ((-1000000001 : Int32), M_1)))
set_option maxRecDepth 100000 in
set_option maxHeartbeats 4000000 in
theorem mX11_sheet (l : Launch) (g : xG) {a1 : Int32} {a2 : Int32} {r : Int32} {M' : xM}  {M : xM} (hf : fX11_sheet M a1 a2 = some (r, M')) : x_cI l g 1 yX11_sheet cX11_sheet 4 .int 1 22 [.ref (g.2.2.1 0), .int a1, .int a2] M (fun v N => v = r ∧ N = M') := by
  refine x_stI RX11 (by decide) rfl (Nat.le_of_ble_eq_true rfl) ?_
  intro p e s m args below meth c Q ls C hw ret hl
  obtain ⟨hx, hb, hml, hown, hB, -⟩ := id C
  have hl : lv_has ls 4 [(0, .ref (g.2.2.1 0)), (1, .int a1), (2, .int a2)] := hl
  unfold fX11_sheet at hf
  refine lv_iload_n hx hb dX11_sheet_0 rfl (lv_at hl 1 rfl) ?_
  refine lv_iconst (v := (0 : Int32)) hx hb dX11_sheet_1 (by decide) ?_
  refine lv_iconst (v := (1 : Int32)) hx hb dX11_sheet_2 (by decide) ?_
  obtain ⟨tv_3, tM_1, c_2, hf⟩ := x_bE hf
  refine x_sI C hw hl.1 [.int a1, .int (0 : Int32), .int (1 : Int32)] [] (mX11_in l g c_2) lk_X11_56 (by decide) rfl (Nat.le_of_ble_eq_true rfl) ⟨Nat.zero_le _, Nat.zero_le _⟩ dX11_sheet_3 (fun v_3 M_1 H locs hN hw => ?_)
  obtain ⟨rfl, rfl⟩ := hN
  refine lv_if_eq (tgt := 15) hx hb dX11_sheet_6 (by decide) (fun q_4 => ?_) (fun q_4 => ?_)
  · have hf := x_iP hf q_4
    refine lv_ldc hx hb hown (hB _ mk_X11_60) dX11_sheet_15 ?_
    exact ret hf dX11_sheet_17 hw
  · have hf := x_iN hf q_4
    refine lv_iload_n hx hb dX11_sheet_9 rfl (lv_at hl 2 rfl) ?_
    refine lv_bipush (v := (24 : Int32)) hx hb dX11_sheet_10 (by decide) ?_
    refine lv_icmp_le (tgt := 18) hx hb dX11_sheet_12 (by decide) (fun q_5 => ?_) (fun q_5 => ?_)
    · have hf := x_iP hf q_5
      refine lv_iload_n hx hb dX11_sheet_18 rfl (lv_at hl 2 rfl) ?_
      refine lv_if_ge (tgt := 26) hx hb dX11_sheet_19 (by decide) (fun q_6 => ?_) (fun q_6 => ?_)
      · have hf := x_iP hf q_6
        refine lv_aload_n hx hb dX11_sheet_26 rfl (lv_at hl 0 rfl) ?_
        refine fg_X11_49 (k2 := 14) C hw ic1_0 rfl dX11_sheet_27 ?_
        refine lv_iload_n hx hb dX11_sheet_30 rfl (lv_at hl 1 rfl) ?_
        refine lv_iload_n hx hb dX11_sheet_31 rfl (lv_at hl 2 rfl) ?_
        obtain ⟨q_7, hf⟩ := x_gE hf
        refine x_ast C hw ic1_14 q_7 rfl dX11_sheet_32 (fun H locs hw => ?_)
        obtain ⟨M_8, eM_8⟩ : ∃ z, z = (x_up M_1 14 a1.toNatClampNeg a2) := ⟨_, rfl⟩
        rw [← eM_8] at hw
        have hf := x_lE eM_8 hf
        refine lv_iconst (v := (0 : Int32)) hx hb dX11_sheet_33 (by decide) ?_
        refine lv_istore_n (lv' := [(3, .int (0 : Int32)), (0, .ref (g.2.2.1 0)), (1, .int a1), (2, .int a2)]) hx hb dX11_sheet_34 rfl hl (by decide) rfl (fun ls hl => ?_)
        have hL_17 : ∀ (n_11 : Nat) (H : Heap) (locs : List Loc) (M_10 : xM) (x3_9 : Int32) (ls : Array Slot) , lv_has ls 4 [(0, .ref (g.2.2.1 0)), (1, .int a1), (2, .int a2), (3, .int x3_9)] → x_w g 1 s H locs M_10 → fX11_sheet_L35 a1 a2 n_11 M_10 x3_9 = some (r, M') → W p l e (x_rm 1 22) s m args below meth c H locs 0 0 Q (F0 m 35 ls []) := by
          intro n_11
          induction n_11 with
          | zero =>
            intro H locs M_10 x3_9 ls  hl hw hf
            rw [fX11_sheet_L35] at hf
            cases hf
          | succ n_11 ih_12 =>
            intro H locs M_10 x3_9 ls  hl hw hf
            rw [fX11_sheet_L35] at hf
            refine lv_iload_n hx hb dX11_sheet_35 rfl (lv_at hl 3 rfl) ?_
            refine lv_iload_n hx hb dX11_sheet_36 rfl (lv_at hl 2 rfl) ?_
            refine lv_icmp_ge (tgt := 58) hx hb dX11_sheet_37 (by decide) (fun q_13 => ?_) (fun q_13 => ?_)
            · have hf := x_iP hf q_13
              refine lv_iload_n hx hb dX11_sheet_58 rfl (lv_at hl 2 rfl) ?_
              exact ret hf dX11_sheet_59 hw
            · have hf := x_iN hf q_13
              refine lv_aload_n hx hb dX11_sheet_40 rfl (lv_at hl 0 rfl) ?_
              refine fg_X11_46 (k2 := 13) C hw ic1_0 rfl dX11_sheet_41 ?_
              refine lv_bipush (v := (24 : Int32)) hx hb dX11_sheet_44 (by decide) ?_
              refine lv_iload_n hx hb dX11_sheet_46 rfl (lv_at hl 1 rfl) ?_
              refine lv_imul hx hb dX11_sheet_47 ?_
              refine lv_iload_n hx hb dX11_sheet_48 rfl (lv_at hl 3 rfl) ?_
              refine lv_iadd hx hb dX11_sheet_49 ?_
              refine lv_iconst (v := (0 : Int32)) hx hb dX11_sheet_50 (by decide) ?_
              obtain ⟨q_14, hf⟩ := x_gE hf
              refine x_ast C hw ic1_13 q_14 rfl dX11_sheet_51 (fun H locs hw => ?_)
              obtain ⟨M_15, eM_15⟩ : ∃ z, z = (x_up M_10 13 (((24 : Int32) * a1) + x3_9).toNatClampNeg (0 : Int32)) := ⟨_, rfl⟩
              rw [← eM_15] at hw
              have hf := x_lE eM_15 hf
              obtain ⟨x3_16, ex3_16⟩ : ∃ z : Int32, z = (x3_9 + (1 : Int32)) := ⟨_, rfl⟩
              have hf := x_lE ex3_16 hf
              refine lv_iinc (v := x3_16) (lv' := [(3, .int x3_16), (0, .ref (g.2.2.1 0)), (1, .int a1), (2, .int a2)]) hx hb dX11_sheet_52 hl (k := 3) rfl (by rw [ex3_16]; rfl) (by decide) rfl (fun ls hl => ?_)
              refine lv_goto (tgt := 35) hx hb dX11_sheet_55 (by decide) ?_
              exact ih_12 _ _ _ _ _ (lv_sub hl [1, 2, 3, 0] rfl) hw hf
        exact hL_17 _ _ _ _ _ _ (lv_sub hl [1, 2, 3, 0] rfl) hw hf
      · have hf := x_iN hf q_6
        refine lv_ldcw hx hb hown (hB _ mk_X11_278) dX11_sheet_22 ?_
        exact ret hf dX11_sheet_25 hw
    · have hf := x_iN hf q_5
      refine lv_ldc hx hb hown (hB _ mk_X11_60) dX11_sheet_15 ?_
      exact ret hf dX11_sheet_17 hw
noncomputable def fX11_mark (M : xM) (a1 : Int32) (a2 : Int32) (a3 : Int32) : Option (Int32 × xM) := x_b (fX11_in M a1 (0 : Int32) (1 : Int32)) fun v_3 M_1 => if v_3 = 0 then (some ((-1000000001 : Int32), M_1)) else (x_g a1 2 (if (M_1 14 a1.toNatClampNeg) = (-1 : Int32) then (some ((-1000000011 : Int32), M_1)) else (x_g a1 2 (x_b (fX11_in M_1 a2 (0 : Int32) ((M_1 14 a1.toNatClampNeg) - (1 : Int32))) fun v_10 M_8 => if v_10 = 0 then (some ((-1000000013 : Int32), M_8)) else (x_g (((24 : Int32) * a1) + a2) 48 (x_l (M_8 13 (((24 : Int32) * a1) + a2).toNatClampNeg) fun x4_13 => x_g (((24 : Int32) * a1) + a2) 48 (x_l (x_up M_8 13 (((24 : Int32) * a1) + a2).toNatClampNeg a3) fun M_15 => some (x4_13, M_15))))))))
set_option maxRecDepth 100000 in
set_option maxHeartbeats 4000000 in
theorem mX11_mark (l : Launch) (g : xG) {a1 : Int32} {a2 : Int32} {a3 : Int32} {r : Int32} {M' : xM}  {M : xM} (hf : fX11_mark M a1 a2 a3 = some (r, M')) : x_cI l g 1 yX11_mark cX11_mark 5 .int 1 22 [.ref (g.2.2.1 0), .int a1, .int a2, .int a3] M (fun v N => v = r ∧ N = M') := by
  refine x_stI RX11 (by decide) rfl (Nat.le_of_ble_eq_true rfl) ?_
  intro p e s m args below meth c Q ls C hw ret hl
  obtain ⟨hx, hb, hml, hown, hB, -⟩ := id C
  have hl : lv_has ls 5 [(0, .ref (g.2.2.1 0)), (1, .int a1), (2, .int a2), (3, .int a3)] := hl
  unfold fX11_mark at hf
  refine lv_iload_n hx hb dX11_mark_0 rfl (lv_at hl 1 rfl) ?_
  refine lv_iconst (v := (0 : Int32)) hx hb dX11_mark_1 (by decide) ?_
  refine lv_iconst (v := (1 : Int32)) hx hb dX11_mark_2 (by decide) ?_
  obtain ⟨tv_3, tM_1, c_2, hf⟩ := x_bE hf
  refine x_sI C hw hl.1 [.int a1, .int (0 : Int32), .int (1 : Int32)] [] (mX11_in l g c_2) lk_X11_56 (by decide) rfl (Nat.le_of_ble_eq_true rfl) ⟨Nat.zero_le _, Nat.zero_le _⟩ dX11_mark_3 (fun v_3 M_1 H locs hN hw => ?_)
  obtain ⟨rfl, rfl⟩ := hN
  refine lv_if_ne (tgt := 12) hx hb dX11_mark_6 (by decide) (fun q_4 => ?_) (fun q_4 => ?_)
  · have hf := x_iN hf q_4
    refine lv_aload_n hx hb dX11_mark_12 rfl (lv_at hl 0 rfl) ?_
    refine fg_X11_49 (k2 := 14) C hw ic1_0 rfl dX11_mark_13 ?_
    refine lv_iload_n hx hb dX11_mark_16 rfl (lv_at hl 1 rfl) ?_
    obtain ⟨q_5, hf⟩ := x_gE hf
    refine x_ald C hw ic1_14 q_5 rfl dX11_mark_17 ?_
    refine lv_iconst (v := (-1 : Int32)) hx hb dX11_mark_18 (by decide) ?_
    refine lv_icmp_ne (tgt := 26) hx hb dX11_mark_19 (by decide) (fun q_6 => ?_) (fun q_6 => ?_)
    · have hf := x_iN hf q_6
      refine lv_iload_n hx hb dX11_mark_26 rfl (lv_at hl 2 rfl) ?_
      refine lv_iconst (v := (0 : Int32)) hx hb dX11_mark_27 (by decide) ?_
      refine lv_aload_n hx hb dX11_mark_28 rfl (lv_at hl 0 rfl) ?_
      refine fg_X11_49 (k2 := 14) C hw ic1_0 rfl dX11_mark_29 ?_
      refine lv_iload_n hx hb dX11_mark_32 rfl (lv_at hl 1 rfl) ?_
      obtain ⟨q_7, hf⟩ := x_gE hf
      refine x_ald C hw ic1_14 q_7 rfl dX11_mark_33 ?_
      refine lv_iconst (v := (1 : Int32)) hx hb dX11_mark_34 (by decide) ?_
      refine lv_isub hx hb dX11_mark_35 ?_
      obtain ⟨tv_10, tM_8, c_9, hf⟩ := x_bE hf
      refine x_sI C hw hl.1 [.int a2, .int (0 : Int32), .int ((M_1 14 a1.toNatClampNeg) - (1 : Int32))] [] (mX11_in l g c_9) lk_X11_56 (by decide) rfl (Nat.le_of_ble_eq_true rfl) ⟨Nat.zero_le _, Nat.zero_le _⟩ dX11_mark_36 (fun v_10 M_8 H locs hN hw => ?_)
      obtain ⟨rfl, rfl⟩ := hN
      refine lv_if_ne (tgt := 46) hx hb dX11_mark_39 (by decide) (fun q_11 => ?_) (fun q_11 => ?_)
      · have hf := x_iN hf q_11
        refine lv_aload_n hx hb dX11_mark_46 rfl (lv_at hl 0 rfl) ?_
        refine fg_X11_46 (k2 := 13) C hw ic1_0 rfl dX11_mark_47 ?_
        refine lv_bipush (v := (24 : Int32)) hx hb dX11_mark_50 (by decide) ?_
        refine lv_iload_n hx hb dX11_mark_52 rfl (lv_at hl 1 rfl) ?_
        refine lv_imul hx hb dX11_mark_53 ?_
        refine lv_iload_n hx hb dX11_mark_54 rfl (lv_at hl 2 rfl) ?_
        refine lv_iadd hx hb dX11_mark_55 ?_
        obtain ⟨q_12, hf⟩ := x_gE hf
        refine x_ald C hw ic1_13 q_12 rfl dX11_mark_56 ?_
        refine lv_topi (fun x4_13 ex4_13 => ?_)
        have hf := x_lE ex4_13 hf
        refine lv_istore (lv' := [(4, .int x4_13), (0, .ref (g.2.2.1 0)), (1, .int a1), (2, .int a2), (3, .int a3)]) hx hb dX11_mark_57 hl (by decide) rfl (fun ls hl => ?_)
        refine lv_aload_n hx hb dX11_mark_59 rfl (lv_at hl 1 rfl) ?_
        refine fg_X11_46 (k2 := 13) C hw ic1_0 rfl dX11_mark_60 ?_
        refine lv_bipush (v := (24 : Int32)) hx hb dX11_mark_63 (by decide) ?_
        refine lv_iload_n hx hb dX11_mark_65 rfl (lv_at hl 2 rfl) ?_
        refine lv_imul hx hb dX11_mark_66 ?_
        refine lv_iload_n hx hb dX11_mark_67 rfl (lv_at hl 3 rfl) ?_
        refine lv_iadd hx hb dX11_mark_68 ?_
        refine lv_iload_n hx hb dX11_mark_69 rfl (lv_at hl 4 rfl) ?_
        obtain ⟨q_14, hf⟩ := x_gE hf
        refine x_ast C hw ic1_13 q_14 rfl dX11_mark_70 (fun H locs hw => ?_)
        obtain ⟨M_15, eM_15⟩ : ∃ z, z = (x_up M_8 13 (((24 : Int32) * a1) + a2).toNatClampNeg a3) := ⟨_, rfl⟩
        rw [← eM_15] at hw
        have hf := x_lE eM_15 hf
        refine lv_iload hx hb dX11_mark_71 (lv_at hl 0 rfl) ?_
        exact ret hf dX11_mark_73 hw
      · have hf := x_iP hf q_11
        refine lv_ldcw hx hb hown (hB _ mk_X11_279) dX11_mark_42 ?_
        exact ret hf dX11_mark_45 hw
    · have hf := x_iP hf q_6
      refine lv_ldcw hx hb hown (hB _ mk_X11_272) dX11_mark_22 ?_
      exact ret hf dX11_mark_25 hw
  · have hf := x_iP hf q_4
    refine lv_ldc hx hb hown (hB _ mk_X11_60) dX11_mark_9 ?_
    exact ret hf dX11_mark_11 hw
noncomputable def fX11_copy_L130 (a3 : Int32) (a4 : Int32) (a5 : Int32) : Nat → xM → Int32 → Option (Int32 × xM)
  | 0, _, _ => none
  | n_24 + 1, M_23, x6_22 => if a5 ≤ x6_22 then (some (a5, M_23)) else (x_g x6_22 24 (x_g ((((24 : Int32) * a3) + a4) + x6_22) 48 (x_l (x_up M_23 13 ((((24 : Int32) * a3) + a4) + x6_22).toNatClampNeg (M_23 15 x6_22.toNatClampNeg)) fun M_29 => x_l (x6_22 + (1 : Int32)) fun x6_30 => fX11_copy_L130 a3 a4 a5 n_24 M_29 x6_30)))
noncomputable def fX11_copy_L93 (a1 : Int32) (a2 : Int32) (a5 : Int32) (k127_20 : xM → Option (Int32 × xM)) : Nat → xM → Int32 → Option (Int32 × xM)
  | 0, _, _ => none
  | n_34 + 1, M_33, x6_32 => if a5 ≤ x6_32 then (k127_20 M_33) else (x_g ((((24 : Int32) * a1) + a2) + x6_32) 48 (x_g x6_32 24 (x_l (x_up M_33 15 x6_32.toNatClampNeg (M_33 13 ((((24 : Int32) * a1) + a2) + x6_32).toNatClampNeg)) fun M_39 => x_l (x6_32 + (1 : Int32)) fun x6_40 => fX11_copy_L93 a1 a2 a5 k127_20 n_34 M_39 x6_40)))
noncomputable def fX11_copy (M : xM) (a1 : Int32) (a2 : Int32) (a3 : Int32) (a4 : Int32) (a5 : Int32) : Option (Int32 × xM) := x_b (fX11_in M a1 (0 : Int32) (1 : Int32)) fun v_3 M_1 => if v_3 = 0 then (some ((-1000000001 : Int32), M_1)) else (x_b (fX11_in M_1 a3 (0 : Int32) (1 : Int32)) fun v_7 M_5 => if v_7 = 0 then (some ((-1000000001 : Int32), M_5)) else (x_g a1 2 (if (M_5 14 a1.toNatClampNeg) = (-1 : Int32) then (some ((-1000000011 : Int32), M_5)) else (x_g a3 2 (if (M_5 14 a3.toNatClampNeg) = (-1 : Int32) then (some ((-1000000011 : Int32), M_5)) else (if a2 < 0 then (some ((-1000000013 : Int32), M_5)) else (if a4 < 0 then (some ((-1000000013 : Int32), M_5)) else (if a5 < 0 then (some ((-1000000013 : Int32), M_5)) else (x_g a1 2 (if ((M_5 14 a1.toNatClampNeg) - a5) < a2 then (some ((-1000000013 : Int32), M_5)) else (x_g a3 2 (if a4 ≤ ((M_5 14 a3.toNatClampNeg) - a5) then (x_l (fun (M_21 : xM) => fX11_copy_L130 a3 a4 a5 x_FU M_21 (0 : Int32)) fun k127_20 => fX11_copy_L93 a1 a2 a5 k127_20 x_FU M_5 (0 : Int32)) else (some ((-1000000013 : Int32), M_5))))))))))))))
set_option maxRecDepth 100000 in
set_option maxHeartbeats 4000000 in
theorem mX11_copy (l : Launch) (g : xG) {a1 : Int32} {a2 : Int32} {a3 : Int32} {a4 : Int32} {a5 : Int32} {r : Int32} {M' : xM}  {M : xM} (hf : fX11_copy M a1 a2 a3 a4 a5 = some (r, M')) : x_cI l g 1 yX11_copy cX11_copy 7 .int 1 22 [.ref (g.2.2.1 0), .int a1, .int a2, .int a3, .int a4, .int a5] M (fun v N => v = r ∧ N = M') := by
  refine x_stI RX11 (by decide) rfl (Nat.le_of_ble_eq_true rfl) ?_
  intro p e s m args below meth c Q ls C hw ret hl
  obtain ⟨hx, hb, hml, hown, hB, -⟩ := id C
  have hl : lv_has ls 7 [(0, .ref (g.2.2.1 0)), (1, .int a1), (2, .int a2), (3, .int a3), (4, .int a4), (5, .int a5)] := hl
  unfold fX11_copy at hf
  refine lv_iload_n hx hb dX11_copy_0 rfl (lv_at hl 1 rfl) ?_
  refine lv_iconst (v := (0 : Int32)) hx hb dX11_copy_1 (by decide) ?_
  refine lv_iconst (v := (1 : Int32)) hx hb dX11_copy_2 (by decide) ?_
  obtain ⟨tv_3, tM_1, c_2, hf⟩ := x_bE hf
  refine x_sI C hw hl.1 [.int a1, .int (0 : Int32), .int (1 : Int32)] [] (mX11_in l g c_2) lk_X11_56 (by decide) rfl (Nat.le_of_ble_eq_true rfl) ⟨Nat.zero_le _, Nat.zero_le _⟩ dX11_copy_3 (fun v_3 M_1 H locs hN hw => ?_)
  obtain ⟨rfl, rfl⟩ := hN
  refine lv_if_eq (tgt := 18) hx hb dX11_copy_6 (by decide) (fun q_4 => ?_) (fun q_4 => ?_)
  · have hf := x_iP hf q_4
    refine lv_ldc hx hb hown (hB _ mk_X11_60) dX11_copy_18 ?_
    exact ret hf dX11_copy_20 hw
  · have hf := x_iN hf q_4
    refine lv_iload_n hx hb dX11_copy_9 rfl (lv_at hl 3 rfl) ?_
    refine lv_iconst (v := (0 : Int32)) hx hb dX11_copy_10 (by decide) ?_
    refine lv_iconst (v := (1 : Int32)) hx hb dX11_copy_11 (by decide) ?_
    obtain ⟨tv_7, tM_5, c_6, hf⟩ := x_bE hf
    refine x_sI C hw hl.1 [.int a3, .int (0 : Int32), .int (1 : Int32)] [] (mX11_in l g c_6) lk_X11_56 (by decide) rfl (Nat.le_of_ble_eq_true rfl) ⟨Nat.zero_le _, Nat.zero_le _⟩ dX11_copy_12 (fun v_7 M_5 H locs hN hw => ?_)
    obtain ⟨rfl, rfl⟩ := hN
    refine lv_if_ne (tgt := 21) hx hb dX11_copy_15 (by decide) (fun q_8 => ?_) (fun q_8 => ?_)
    · have hf := x_iN hf q_8
      refine lv_aload_n hx hb dX11_copy_21 rfl (lv_at hl 0 rfl) ?_
      refine fg_X11_49 (k2 := 14) C hw ic1_0 rfl dX11_copy_22 ?_
      refine lv_iload_n hx hb dX11_copy_25 rfl (lv_at hl 1 rfl) ?_
      obtain ⟨q_9, hf⟩ := x_gE hf
      refine x_ald C hw ic1_14 q_9 rfl dX11_copy_26 ?_
      refine lv_iconst (v := (-1 : Int32)) hx hb dX11_copy_27 (by decide) ?_
      refine lv_icmp_eq (tgt := 41) hx hb dX11_copy_28 (by decide) (fun q_10 => ?_) (fun q_10 => ?_)
      · have hf := x_iP hf q_10
        refine lv_ldcw hx hb hown (hB _ mk_X11_272) dX11_copy_41 ?_
        exact ret hf dX11_copy_44 hw
      · have hf := x_iN hf q_10
        refine lv_aload_n hx hb dX11_copy_31 rfl (lv_at hl 0 rfl) ?_
        refine fg_X11_49 (k2 := 14) C hw ic1_0 rfl dX11_copy_32 ?_
        refine lv_iload_n hx hb dX11_copy_35 rfl (lv_at hl 3 rfl) ?_
        obtain ⟨q_11, hf⟩ := x_gE hf
        refine x_ald C hw ic1_14 q_11 rfl dX11_copy_36 ?_
        refine lv_iconst (v := (-1 : Int32)) hx hb dX11_copy_37 (by decide) ?_
        refine lv_icmp_ne (tgt := 45) hx hb dX11_copy_38 (by decide) (fun q_12 => ?_) (fun q_12 => ?_)
        · have hf := x_iN hf q_12
          refine lv_iload_n hx hb dX11_copy_45 rfl (lv_at hl 2 rfl) ?_
          refine lv_if_lt (tgt := 86) hx hb dX11_copy_46 (by decide) (fun q_13 => ?_) (fun q_13 => ?_)
          · have hf := x_iP hf q_13
            refine lv_ldcw hx hb hown (hB _ mk_X11_279) dX11_copy_86 ?_
            exact ret hf dX11_copy_89 hw
          · have hf := x_iN hf q_13
            refine lv_iload hx hb dX11_copy_49 (lv_at hl 4 rfl) ?_
            refine lv_if_lt (tgt := 86) hx hb dX11_copy_51 (by decide) (fun q_14 => ?_) (fun q_14 => ?_)
            · have hf := x_iP hf q_14
              refine lv_ldcw hx hb hown (hB _ mk_X11_279) dX11_copy_86 ?_
              exact ret hf dX11_copy_89 hw
            · have hf := x_iN hf q_14
              refine lv_iload hx hb dX11_copy_54 (lv_at hl 5 rfl) ?_
              refine lv_if_lt (tgt := 86) hx hb dX11_copy_56 (by decide) (fun q_15 => ?_) (fun q_15 => ?_)
              · have hf := x_iP hf q_15
                refine lv_ldcw hx hb hown (hB _ mk_X11_279) dX11_copy_86 ?_
                exact ret hf dX11_copy_89 hw
              · have hf := x_iN hf q_15
                refine lv_iload_n hx hb dX11_copy_59 rfl (lv_at hl 2 rfl) ?_
                refine lv_aload_n hx hb dX11_copy_60 rfl (lv_at hl 0 rfl) ?_
                refine fg_X11_49 (k2 := 14) C hw ic1_0 rfl dX11_copy_61 ?_
                refine lv_iload_n hx hb dX11_copy_64 rfl (lv_at hl 1 rfl) ?_
                obtain ⟨q_16, hf⟩ := x_gE hf
                refine x_ald C hw ic1_14 q_16 rfl dX11_copy_65 ?_
                refine lv_iload hx hb dX11_copy_66 (lv_at hl 5 rfl) ?_
                refine lv_isub hx hb dX11_copy_68 ?_
                refine lv_icmp_gt (tgt := 86) hx hb dX11_copy_69 (by decide) (fun q_17 => ?_) (fun q_17 => ?_)
                · have hf := x_iP hf q_17
                  refine lv_ldcw hx hb hown (hB _ mk_X11_279) dX11_copy_86 ?_
                  exact ret hf dX11_copy_89 hw
                · have hf := x_iN hf q_17
                  refine lv_iload hx hb dX11_copy_72 (lv_at hl 4 rfl) ?_
                  refine lv_aload_n hx hb dX11_copy_74 rfl (lv_at hl 0 rfl) ?_
                  refine fg_X11_49 (k2 := 14) C hw ic1_0 rfl dX11_copy_75 ?_
                  refine lv_iload_n hx hb dX11_copy_78 rfl (lv_at hl 3 rfl) ?_
                  obtain ⟨q_18, hf⟩ := x_gE hf
                  refine x_ald C hw ic1_14 q_18 rfl dX11_copy_79 ?_
                  refine lv_iload hx hb dX11_copy_80 (lv_at hl 5 rfl) ?_
                  refine lv_isub hx hb dX11_copy_82 ?_
                  refine lv_icmp_le (tgt := 90) hx hb dX11_copy_83 (by decide) (fun q_19 => ?_) (fun q_19 => ?_)
                  · have hf := x_iP hf q_19
                    refine lv_iconst (v := (0 : Int32)) hx hb dX11_copy_90 (by decide) ?_
                    refine lv_istore (lv' := [(6, .int (0 : Int32)), (0, .ref (g.2.2.1 0)), (1, .int a1), (2, .int a2), (3, .int a3), (4, .int a4), (5, .int a5)]) hx hb dX11_copy_91 hl (by decide) rfl (fun ls hl => ?_)
                    obtain ⟨k127_20, ek127_20, hf⟩ := x_jE hf
                    have hk127_20 : ∀ (H : Heap) (locs : List Loc) (M_21 : xM)  (ls : Array Slot) , lv_has ls 7 [(0, .ref (g.2.2.1 0)), (3, .int a3), (4, .int a4), (5, .int a5)] → x_w g 1 s H locs M_21 → k127_20 M_21 = some (r, M') → W p l e (x_rm 1 22) s m args below meth c H locs 0 0 Q (F0 m 127 ls []) := by
                      intro H locs M_21  ls  hl hw hf
                      rw [ek127_20] at hf
                      refine lv_iconst (v := (0 : Int32)) hx hb dX11_copy_127 (by decide) ?_
                      refine lv_istore (lv' := [(6, .int (0 : Int32)), (0, .ref (g.2.2.1 0)), (3, .int a3), (4, .int a4), (5, .int a5)]) hx hb dX11_copy_128 hl (by decide) rfl (fun ls hl => ?_)
                      have hL_31 : ∀ (n_24 : Nat) (H : Heap) (locs : List Loc) (M_23 : xM) (x6_22 : Int32) (ls : Array Slot) , lv_has ls 7 [(0, .ref (g.2.2.1 0)), (3, .int a3), (4, .int a4), (5, .int a5), (6, .int x6_22)] → x_w g 1 s H locs M_23 → fX11_copy_L130 a3 a4 a5 n_24 M_23 x6_22 = some (r, M') → W p l e (x_rm 1 22) s m args below meth c H locs 0 0 Q (F0 m 130 ls []) := by
                        intro n_24
                        induction n_24 with
                        | zero =>
                          intro H locs M_23 x6_22 ls  hl hw hf
                          rw [fX11_copy_L130] at hf
                          cases hf
                        | succ n_24 ih_25 =>
                          intro H locs M_23 x6_22 ls  hl hw hf
                          rw [fX11_copy_L130] at hf
                          refine lv_iload hx hb dX11_copy_130 (lv_at hl 4 rfl) ?_
                          refine lv_iload hx hb dX11_copy_132 (lv_at hl 3 rfl) ?_
                          refine lv_icmp_ge (tgt := 165) hx hb dX11_copy_134 (by decide) (fun q_26 => ?_) (fun q_26 => ?_)
                          · have hf := x_iP hf q_26
                            refine lv_iload hx hb dX11_copy_165 (lv_at hl 3 rfl) ?_
                            exact ret hf dX11_copy_167 hw
                          · have hf := x_iN hf q_26
                            refine lv_aload_n hx hb dX11_copy_137 rfl (lv_at hl 0 rfl) ?_
                            refine fg_X11_46 (k2 := 13) C hw ic1_0 rfl dX11_copy_138 ?_
                            refine lv_bipush (v := (24 : Int32)) hx hb dX11_copy_141 (by decide) ?_
                            refine lv_iload_n hx hb dX11_copy_143 rfl (lv_at hl 1 rfl) ?_
                            refine lv_imul hx hb dX11_copy_144 ?_
                            refine lv_iload hx hb dX11_copy_145 (lv_at hl 2 rfl) ?_
                            refine lv_iadd hx hb dX11_copy_147 ?_
                            refine lv_iload hx hb dX11_copy_148 (lv_at hl 4 rfl) ?_
                            refine lv_iadd hx hb dX11_copy_150 ?_
                            refine lv_aload_n hx hb dX11_copy_151 rfl (lv_at hl 0 rfl) ?_
                            refine fg_X11_52 (k2 := 15) C hw ic1_0 rfl dX11_copy_152 ?_
                            refine lv_iload hx hb dX11_copy_155 (lv_at hl 4 rfl) ?_
                            obtain ⟨q_27, hf⟩ := x_gE hf
                            refine x_ald C hw ic1_15 q_27 rfl dX11_copy_157 ?_
                            obtain ⟨q_28, hf⟩ := x_gE hf
                            refine x_ast C hw ic1_13 q_28 rfl dX11_copy_158 (fun H locs hw => ?_)
                            obtain ⟨M_29, eM_29⟩ : ∃ z, z = (x_up M_23 13 ((((24 : Int32) * a3) + a4) + x6_22).toNatClampNeg (M_23 15 x6_22.toNatClampNeg)) := ⟨_, rfl⟩
                            rw [← eM_29] at hw
                            have hf := x_lE eM_29 hf
                            obtain ⟨x6_30, ex6_30⟩ : ∃ z : Int32, z = (x6_22 + (1 : Int32)) := ⟨_, rfl⟩
                            have hf := x_lE ex6_30 hf
                            refine lv_iinc (v := x6_30) (lv' := [(6, .int x6_30), (0, .ref (g.2.2.1 0)), (3, .int a3), (4, .int a4), (5, .int a5)]) hx hb dX11_copy_159 hl (k := 4) rfl (by rw [ex6_30]; rfl) (by decide) rfl (fun ls hl => ?_)
                            refine lv_goto (tgt := 130) hx hb dX11_copy_162 (by decide) ?_
                            exact ih_25 _ _ _ _ _ (lv_sub hl [1, 2, 3, 4, 0] rfl) hw hf
                      exact hL_31 _ _ _ _ _ _ (lv_sub hl [1, 2, 3, 4, 0] rfl) hw hf
                    have hL_41 : ∀ (n_34 : Nat) (H : Heap) (locs : List Loc) (M_33 : xM) (x6_32 : Int32) (ls : Array Slot) , lv_has ls 7 [(0, .ref (g.2.2.1 0)), (1, .int a1), (2, .int a2), (3, .int a3), (4, .int a4), (5, .int a5), (6, .int x6_32)] → x_w g 1 s H locs M_33 → fX11_copy_L93 a1 a2 a5 k127_20 n_34 M_33 x6_32 = some (r, M') → W p l e (x_rm 1 22) s m args below meth c H locs 0 0 Q (F0 m 93 ls []) := by
                      intro n_34
                      induction n_34 with
                      | zero =>
                        intro H locs M_33 x6_32 ls  hl hw hf
                        rw [fX11_copy_L93] at hf
                        cases hf
                      | succ n_34 ih_35 =>
                        intro H locs M_33 x6_32 ls  hl hw hf
                        rw [fX11_copy_L93] at hf
                        refine lv_iload hx hb dX11_copy_93 (lv_at hl 6 rfl) ?_
                        refine lv_iload hx hb dX11_copy_95 (lv_at hl 5 rfl) ?_
                        refine lv_icmp_ge (tgt := 127) hx hb dX11_copy_97 (by decide) (fun q_36 => ?_) (fun q_36 => ?_)
                        · have hf := x_iP hf q_36
                          exact hk127_20 _ _ _ _ (lv_sub hl [0, 3, 4, 5] rfl) hw hf
                        · have hf := x_iN hf q_36
                          refine lv_aload_n hx hb dX11_copy_100 rfl (lv_at hl 0 rfl) ?_
                          refine fg_X11_52 (k2 := 15) C hw ic1_0 rfl dX11_copy_101 ?_
                          refine lv_iload hx hb dX11_copy_104 (lv_at hl 6 rfl) ?_
                          refine lv_aload_n hx hb dX11_copy_106 rfl (lv_at hl 0 rfl) ?_
                          refine fg_X11_46 (k2 := 13) C hw ic1_0 rfl dX11_copy_107 ?_
                          refine lv_bipush (v := (24 : Int32)) hx hb dX11_copy_110 (by decide) ?_
                          refine lv_iload_n hx hb dX11_copy_112 rfl (lv_at hl 1 rfl) ?_
                          refine lv_imul hx hb dX11_copy_113 ?_
                          refine lv_iload_n hx hb dX11_copy_114 rfl (lv_at hl 2 rfl) ?_
                          refine lv_iadd hx hb dX11_copy_115 ?_
                          refine lv_iload hx hb dX11_copy_116 (lv_at hl 6 rfl) ?_
                          refine lv_iadd hx hb dX11_copy_118 ?_
                          obtain ⟨q_37, hf⟩ := x_gE hf
                          refine x_ald C hw ic1_13 q_37 rfl dX11_copy_119 ?_
                          obtain ⟨q_38, hf⟩ := x_gE hf
                          refine x_ast C hw ic1_15 q_38 rfl dX11_copy_120 (fun H locs hw => ?_)
                          obtain ⟨M_39, eM_39⟩ : ∃ z, z = (x_up M_33 15 x6_32.toNatClampNeg (M_33 13 ((((24 : Int32) * a1) + a2) + x6_32).toNatClampNeg)) := ⟨_, rfl⟩
                          rw [← eM_39] at hw
                          have hf := x_lE eM_39 hf
                          obtain ⟨x6_40, ex6_40⟩ : ∃ z : Int32, z = (x6_32 + (1 : Int32)) := ⟨_, rfl⟩
                          have hf := x_lE ex6_40 hf
                          refine lv_iinc (v := x6_40) (lv' := [(6, .int x6_40), (0, .ref (g.2.2.1 0)), (1, .int a1), (2, .int a2), (3, .int a3), (4, .int a4), (5, .int a5)]) hx hb dX11_copy_121 hl (k := 6) rfl (by rw [ex6_40]; rfl) (by decide) rfl (fun ls hl => ?_)
                          refine lv_goto (tgt := 93) hx hb dX11_copy_124 (by decide) ?_
                          exact ih_35 _ _ _ _ _ (lv_sub hl [1, 2, 3, 4, 5, 6, 0] rfl) hw hf
                    exact hL_41 _ _ _ _ _ _ (lv_sub hl [1, 2, 3, 4, 5, 6, 0] rfl) hw hf
                  · have hf := x_iN hf q_19
                    refine lv_ldcw hx hb hown (hB _ mk_X11_279) dX11_copy_86 ?_
                    exact ret hf dX11_copy_89 hw
        · have hf := x_iP hf q_12
          refine lv_ldcw hx hb hown (hB _ mk_X11_272) dX11_copy_41 ?_
          exact ret hf dX11_copy_44 hw
    · have hf := x_iP hf q_8
      refine lv_ldc hx hb hown (hB _ mk_X11_60) dX11_copy_18 ?_
      exact ret hf dX11_copy_20 hw
