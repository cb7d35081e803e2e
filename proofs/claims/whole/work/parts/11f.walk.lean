def fX11_month (M : xM) (k0 : Nat) (a1 : Int32) (a2 : Int32) : Option (Int32 × xM) := x_b (fX11_isPerson M k0 a1) fun v_3 M_1 => if v_3 = 0 then (some ((-1000000001 : Int32), M_1)) else (x_b (fX11_in M_1 a2 (0 : Int32) (23 : Int32)) fun v_7 M_5 => if v_7 = 0 then (some ((-1000000001 : Int32), M_5)) else (x_b (fX11_findLevel M_5 k0 a1) fun v_11 M_9 => if v_11 = (-1 : Int32) then (some ((-1000000002 : Int32), M_9)) else (x_v (fX11_layPays M_9 k0 v_11) fun M_13 => x_g a2 (xn 1 (xr 1 k0 25)) (some ((M_13 (xr 1 k0 25) a2.toNatClampNeg), M_13)))))
set_option maxRecDepth 100000 in
set_option maxHeartbeats 4000000 in
theorem mX11_month (l : Launch) (g : xG) {k0 : Nat} {a1 : Int32} {a2 : Int32} {r : Int32} {M' : xM} (h0 : x_is 1 k0 11) {M : xM} (hf : fX11_month M k0 a1 a2 = some (r, M')) : x_cI l g 1 yX11_month cX11_month 4 .int 6 150 [.ref (g.2.2.1 k0), .int a1, .int a2] M (fun v N => v = r ∧ N = M') := by
  refine x_stI RX11 (by decide) rfl (Nat.le_of_ble_eq_true rfl) ?_
  intro p e s m args below meth c Q ls C hw ret hl
  obtain ⟨hx, hb, hml, hown, hB, -⟩ := id C
  have hl : lv_has ls 4 [(0, .ref (g.2.2.1 k0)), (1, .int a1), (2, .int a2)] := hl
  unfold fX11_month at hf
  refine lv_aload_n hx hb dX11_month_0 rfl (lv_at hl 0 rfl) ?_
  refine lv_iload_n hx hb dX11_month_1 rfl (lv_at hl 1 rfl) ?_
  obtain ⟨tv_3, tM_1, c_2, hf⟩ := x_bE hf
  refine x_vI C hw hl.1 [.int a1] [] (mX11_isPerson l g h0 c_2) lk_X11_62 h0 (by decide) rfl (by decide) rfl (Nat.le_of_ble_eq_true rfl) ⟨Nat.zero_le _, Nat.zero_le _⟩ dX11_month_2 (fun v_3 M_1 H locs hN hw => ?_)
  obtain ⟨rfl, rfl⟩ := hN
  refine lv_if_eq (tgt := 18) hx hb dX11_month_5 (by decide) (fun q_4 => ?_) (fun q_4 => ?_)
  · have hf := x_iP hf q_4
    refine lv_ldc hx hb hown (hB _ mk_X11_60) dX11_month_18 ?_
    exact ret hf dX11_month_20 hw
  · have hf := x_iN hf q_4
    refine lv_iload_n hx hb dX11_month_8 rfl (lv_at hl 2 rfl) ?_
    refine lv_iconst (v := (0 : Int32)) hx hb dX11_month_9 (by decide) ?_
    refine lv_bipush (v := (23 : Int32)) hx hb dX11_month_10 (by decide) ?_
    obtain ⟨tv_7, tM_5, c_6, hf⟩ := x_bE hf
    refine x_sI C hw hl.1 [.int a2, .int (0 : Int32), .int (23 : Int32)] [] (mX11_in l g c_6) lk_X11_56 (by decide) rfl (Nat.le_of_ble_eq_true rfl) ⟨Nat.zero_le _, Nat.zero_le _⟩ dX11_month_12 (fun v_7 M_5 H locs hN hw => ?_)
    obtain ⟨rfl, rfl⟩ := hN
    refine lv_if_ne (tgt := 21) hx hb dX11_month_15 (by decide) (fun q_8 => ?_) (fun q_8 => ?_)
    · have hf := x_iN hf q_8
      refine lv_aload_n hx hb dX11_month_21 rfl (lv_at hl 0 rfl) ?_
      refine lv_iload_n hx hb dX11_month_22 rfl (lv_at hl 1 rfl) ?_
      obtain ⟨tv_11, tM_9, c_10, hf⟩ := x_bE hf
      refine x_vI C hw hl.1 [.int a1] [] (mX11_findLevel l g h0 c_10) lk_X11_254 h0 (by decide) rfl (by decide) rfl (Nat.le_of_ble_eq_true rfl) ⟨Nat.zero_le _, Nat.zero_le _⟩ dX11_month_23 (fun v_11 M_9 H locs hN hw => ?_)
      obtain ⟨rfl, rfl⟩ := hN
      refine lv_istore_n (lv' := [(3, .int v_11), (0, .ref (g.2.2.1 k0)), (1, .int a1), (2, .int a2)]) hx hb dX11_month_26 rfl hl (by decide) rfl (fun ls hl => ?_)
      refine lv_iload_n hx hb dX11_month_27 rfl (lv_at hl 0 rfl) ?_
      refine lv_iconst (v := (-1 : Int32)) hx hb dX11_month_28 (by decide) ?_
      refine lv_icmp_ne (tgt := 35) hx hb dX11_month_29 (by decide) (fun q_12 => ?_) (fun q_12 => ?_)
      · have hf := x_iN hf q_12
        refine lv_aload_n hx hb dX11_month_35 rfl (lv_at hl 1 rfl) ?_
        refine lv_iload_n hx hb dX11_month_36 rfl (lv_at hl 0 rfl) ?_
        obtain ⟨tM_13, c_14, hf⟩ := x_vE hf
        refine x_vV C hw hl.1 [.int v_11] [] (mX11_layPays l g h0 c_14) lk_X11_257 h0 (by decide) rfl (by decide) rfl (Nat.le_of_ble_eq_true rfl) ⟨Nat.zero_le _, Nat.zero_le _⟩ dX11_month_37 (fun M_13 H locs hN hw => ?_)
        obtain rfl := hN
        refine lv_aload_n hx hb dX11_month_40 rfl (lv_at hl 1 rfl) ?_
        refine fg_X11_40 C hw h0 dX11_month_41 ?_
        have h_15 : x_is 1 (xr 1 k0 25) 12 := x_tm h0 (by decide) rfl
        refine lv_iload_n hx hb dX11_month_44 rfl (lv_at hl 3 rfl) ?_
        obtain ⟨q_16, hf⟩ := x_gE hf
        refine x_ald C hw h_15 q_16 dX11_month_45 ?_
        exact ret hf dX11_month_46 hw
      · have hf := x_iP hf q_12
        refine lv_ldc hx hb hown (hB _ mk_X11_69) dX11_month_32 ?_
        exact ret hf dX11_month_34 hw
    · have hf := x_iP hf q_8
      refine lv_ldc hx hb hown (hB _ mk_X11_60) dX11_month_18 ?_
      exact ret hf dX11_month_20 hw
def fX11_room (M : xM) (k0 : Nat) (a1 : Int32) (a2 : Int32) : Option (Int32 × xM) := x_b (fX11_isPerson M k0 a1) fun v_3 M_1 => x_l (fun (M_5 : xM) => some ((-1000000001 : Int32), M_5)) fun k27_4 => if v_3 = 0 then (k27_4 M_1) else (x_b (fX11_in M_1 a2 (0 : Int32) (23 : Int32)) fun v_9 M_7 => if v_9 = 0 then (k27_4 M_7) else (x_b (fX11_roomOf M_7 k0 a1 a2) fun v_13 M_11 => some (v_13, M_11)))
set_option maxRecDepth 100000 in
set_option maxHeartbeats 4000000 in
theorem mX11_room (l : Launch) (g : xG) {k0 : Nat} {a1 : Int32} {a2 : Int32} {r : Int32} {M' : xM} (h0 : x_is 1 k0 11) {M : xM} (hf : fX11_room M k0 a1 a2 = some (r, M')) : x_cI l g 1 yX11_room cX11_room 3 .int 4 102 [.ref (g.2.2.1 k0), .int a1, .int a2] M (fun v N => v = r ∧ N = M') := by
  refine x_stI RX11 (by decide) rfl (Nat.le_of_ble_eq_true rfl) ?_
  intro p e s m args below meth c Q ls C hw ret hl
  obtain ⟨hx, hb, hml, hown, hB, -⟩ := id C
  have hl : lv_has ls 3 [(0, .ref (g.2.2.1 k0)), (1, .int a1), (2, .int a2)] := hl
  unfold fX11_room at hf
  refine lv_aload_n hx hb dX11_room_0 rfl (lv_at hl 0 rfl) ?_
  refine lv_iload_n hx hb dX11_room_1 rfl (lv_at hl 1 rfl) ?_
  obtain ⟨tv_3, tM_1, c_2, hf⟩ := x_bE hf
  refine x_vI C hw hl.1 [.int a1] [] (mX11_isPerson l g h0 c_2) lk_X11_62 h0 (by decide) rfl (by decide) rfl (Nat.le_of_ble_eq_true rfl) ⟨Nat.zero_le _, Nat.zero_le _⟩ dX11_room_2 (fun v_3 M_1 H locs hN hw => ?_)
  obtain ⟨rfl, rfl⟩ := hN
  obtain ⟨k27_4, ek27_4, hf⟩ := x_jE hf
  have hk27_4 : ∀ (H : Heap) (locs : List Loc) (M_5 : xM)  (ls : Array Slot) , lv_has ls 3 [] → x_w g 1 s H locs M_5 → k27_4 M_5 = some (r, M') → W p l e (x_rm 4 102) s m args below meth c H locs 0 0 Q (F0 m 27 ls []) := by
    intro H locs M_5  ls  hl hw hf
    rw [ek27_4] at hf
    refine lv_ldc hx hb hown (hB _ mk_X11_60) dX11_room_27 ?_
    exact ret hf dX11_room_29 hw
  refine lv_if_eq (tgt := 27) hx hb dX11_room_5 (by decide) (fun q_6 => ?_) (fun q_6 => ?_)
  · have hf := x_iP hf q_6
    exact hk27_4 _ _ _ _ (lv_sub hl [] rfl) hw hf
  · have hf := x_iN hf q_6
    refine lv_iload_n hx hb dX11_room_8 rfl (lv_at hl 2 rfl) ?_
    refine lv_iconst (v := (0 : Int32)) hx hb dX11_room_9 (by decide) ?_
    refine lv_bipush (v := (23 : Int32)) hx hb dX11_room_10 (by decide) ?_
    obtain ⟨tv_9, tM_7, c_8, hf⟩ := x_bE hf
    refine x_sI C hw hl.1 [.int a2, .int (0 : Int32), .int (23 : Int32)] [] (mX11_in l g c_8) lk_X11_56 (by decide) rfl (Nat.le_of_ble_eq_true rfl) ⟨Nat.zero_le _, Nat.zero_le _⟩ dX11_room_12 (fun v_9 M_7 H locs hN hw => ?_)
    obtain ⟨rfl, rfl⟩ := hN
    refine lv_if_eq (tgt := 27) hx hb dX11_room_15 (by decide) (fun q_10 => ?_) (fun q_10 => ?_)
    · have hf := x_iP hf q_10
      exact hk27_4 _ _ _ _ (lv_sub hl [] rfl) hw hf
    · have hf := x_iN hf q_10
      refine lv_aload_n hx hb dX11_room_18 rfl (lv_at hl 0 rfl) ?_
      refine lv_iload_n hx hb dX11_room_19 rfl (lv_at hl 1 rfl) ?_
      refine lv_iload_n hx hb dX11_room_20 rfl (lv_at hl 2 rfl) ?_
      obtain ⟨tv_13, tM_11, c_12, hf⟩ := x_bE hf
      refine x_vI C hw hl.1 [.int a1, .int a2] [] (mX11_roomOf l g h0 c_12) lk_X11_241 h0 (by decide) rfl (by decide) rfl (Nat.le_of_ble_eq_true rfl) ⟨Nat.zero_le _, Nat.zero_le _⟩ dX11_room_21 (fun v_13 M_11 H locs hN hw => ?_)
      obtain ⟨rfl, rfl⟩ := hN
      refine lv_goto (tgt := 29) hx hb dX11_room_24 (by decide) ?_
      exact ret hf dX11_room_29 hw
def fX11_tell (M : xM) (k0 : Nat) (a1 : Int32) : Option (Int32 × xM) := if (M k0 27) = (30 : Int32) then (some ((-1000000003 : Int32), M)) else (x_g (M k0 27) (xn 1 (xr 1 k0 26)) (x_l (x_up M (xr 1 k0 26) (M k0 27).toNatClampNeg a1) fun M_4 => x_l (x_up M_4 k0 27 ((M_4 k0 27) + (1 : Int32))) fun M_5 => some ((M_5 k0 27), M_5)))
set_option maxRecDepth 100000 in
set_option maxHeartbeats 4000000 in
theorem mX11_tell (l : Launch) (g : xG) {k0 : Nat} {a1 : Int32} {r : Int32} {M' : xM} (h0 : x_is 1 k0 11) {M : xM} (hf : fX11_tell M k0 a1 = some (r, M')) : x_cI l g 1 yX11_tell cX11_tell 2 .int 0 0 [.ref (g.2.2.1 k0), .int a1] M (fun v N => v = r ∧ N = M') := by
  refine x_stI RX11 (by decide) rfl (Nat.le_of_ble_eq_true rfl) ?_
  intro p e s m args below meth c Q ls C hw ret hl
  obtain ⟨hx, hb, hml, hown, hB, -⟩ := id C
  have hl : lv_has ls 2 [(0, .ref (g.2.2.1 k0)), (1, .int a1)] := hl
  unfold fX11_tell at hf
  refine lv_aload_n hx hb dX11_tell_0 rfl (lv_at hl 0 rfl) ?_
  refine fg_X11_260 C hw h0 dX11_tell_1 ?_
  refine lv_bipush (v := (30 : Int32)) hx hb dX11_tell_4 (by decide) ?_
  refine lv_icmp_ne (tgt := 12) hx hb dX11_tell_6 (by decide) (fun q_1 => ?_) (fun q_1 => ?_)
  · have hf := x_iN hf q_1
    refine lv_aload_n hx hb dX11_tell_12 rfl (lv_at hl 0 rfl) ?_
    refine fg_X11_43 C hw h0 dX11_tell_13 ?_
    have h_2 : x_is 1 (xr 1 k0 26) 12 := x_tm h0 (by decide) rfl
    refine lv_aload_n hx hb dX11_tell_16 rfl (lv_at hl 0 rfl) ?_
    refine fg_X11_260 C hw h0 dX11_tell_17 ?_
    refine lv_iload_n hx hb dX11_tell_20 rfl (lv_at hl 1 rfl) ?_
    obtain ⟨q_3, hf⟩ := x_gE hf
    refine x_ast C hw h_2 q_3 dX11_tell_21 (fun H locs hw => ?_)
    obtain ⟨M_4, eM_4⟩ : ∃ z, z = (x_up M (xr 1 k0 26) (M k0 27).toNatClampNeg a1) := ⟨_, rfl⟩
    rw [← eM_4] at hw
    have hf := x_lE eM_4 hf
    refine lv_aload_n hx hb dX11_tell_22 rfl (lv_at hl 0 rfl) ?_
    refine lv_dup hx hb dX11_tell_23 rfl ?_
    refine fg_X11_260 C hw h0 dX11_tell_24 ?_
    refine lv_iconst (v := (1 : Int32)) hx hb dX11_tell_27 (by decide) ?_
    refine lv_iadd hx hb dX11_tell_28 ?_
    refine fp_X11_260 C hw h0 dX11_tell_29 (fun H locs hw => ?_)
    obtain ⟨M_5, eM_5⟩ : ∃ z, z = (x_up M_4 k0 27 ((M_4 k0 27) + (1 : Int32))) := ⟨_, rfl⟩
    rw [← eM_5] at hw
    have hf := x_lE eM_5 hf
    refine lv_aload_n hx hb dX11_tell_32 rfl (lv_at hl 0 rfl) ?_
    refine fg_X11_260 C hw h0 dX11_tell_33 ?_
    exact ret hf dX11_tell_36 hw
  · have hf := x_iP hf q_1
    refine lv_ldc hx hb hown (hB _ mk_X11_61) dX11_tell_9 ?_
    exact ret hf dX11_tell_11 hw
def fX11_check_L83 (k0 : Nat) (x2_1 : Int32) (x4_13 : Int32) (k124_16 : xM → Option (Int32 × xM)) (k113_20 : xM → Int32 → Option (Int32 × xM)) : Nat → xM → Int32 → Option (Int32 × xM)
  | 0, _, _ => none
  | n_24 + 1, M_23, x5_22 => if x2_1 ≤ x5_22 then (k124_16 M_23) else (if x4_13 ≤ x5_22 then (k113_20 M_23 x5_22) else (x_g x5_22 (xn 1 (xr 1 k0 26)) (x_g x5_22 (xn 1 (xr 1 k0 25)) (if (M_23 (xr 1 k0 26) x5_22.toNatClampNeg) = (M_23 (xr 1 k0 25) x5_22.toNatClampNeg) then (x_l (x5_22 + (1 : Int32)) fun x5_33 => fX11_check_L83 k0 x2_1 x4_13 k124_16 k113_20 n_24 M_23 x5_33) else (k113_20 M_23 x5_22)))))
def fX11_check_L46 (k0 : Nat) (k80_14 : xM → Int32 → Option (Int32 × xM)) : Nat → xM → Int32 → Int32 → Option (Int32 × xM)
  | 0, _, _, _ => none
  | n_38 + 1, M_37, x4_35, x5_36 => if (24 : Int32) ≤ x5_36 then (k80_14 M_37 x4_35) else (x_g x5_36 (xn 1 (xr 1 k0 25)) (x_l (fun (M_45 : xM) (z_43 : Int32) => x_l (x5_36 + (1 : Int32)) fun x5_46 => fX11_check_L46 k0 k80_14 n_38 M_45 z_43 x5_46) fun k72_44 => if (M_37 (xr 1 k0 25) x5_36.toNatClampNeg) ≤ 0 then (k72_44 M_37 x4_35) else (k72_44 M_37 (x5_36 + (1 : Int32)))))
def fX11_check (M : xM) (k0 : Nat) (a1 : Int32) : Option (Int32 × xM) := x_l (M k0 27) fun x2_1 => x_l (x_up M k0 27 (0 : Int32)) fun M_2 => x_b (fX11_isPerson M_2 k0 a1) fun v_5 M_3 => if v_5 = 0 then (some ((-1000000001 : Int32), M_3)) else (x_b (fX11_findLevel M_3 k0 a1) fun v_9 M_7 => if v_9 = (-1 : Int32) then (some ((-1000000002 : Int32), M_7)) else (x_v (fX11_layPays M_7 k0 v_9) fun M_11 => x_l (fun (M_15 : xM) (x4_13 : Int32) => x_l (fun (M_17 : xM) => if x4_13 ≤ x2_1 then (some ((0 : Int32), M_17)) else (some (((1 : Int32) + x2_1), M_17))) fun k124_16 => x_l (fun (M_21 : xM) (x5_19 : Int32) => some (((1 : Int32) + x5_19), M_21)) fun k113_20 => fX11_check_L83 k0 x2_1 x4_13 k124_16 k113_20 x_FU M_15 (0 : Int32)) fun k80_14 => fX11_check_L46 k0 k80_14 x_FU M_11 (0 : Int32) (0 : Int32)))
set_option maxRecDepth 100000 in
set_option maxHeartbeats 4000000 in
theorem mX11_check (l : Launch) (g : xG) {k0 : Nat} {a1 : Int32} {r : Int32} {M' : xM} (h0 : x_is 1 k0 11) {M : xM} (hf : fX11_check M k0 a1 = some (r, M')) : x_cI l g 1 yX11_check cX11_check 6 .int 6 150 [.ref (g.2.2.1 k0), .int a1] M (fun v N => v = r ∧ N = M') := by
  refine x_stI RX11 (by decide) rfl (Nat.le_of_ble_eq_true rfl) ?_
  intro p e s m args below meth c Q ls C hw ret hl
  obtain ⟨hx, hb, hml, hown, hB, -⟩ := id C
  have hl : lv_has ls 6 [(0, .ref (g.2.2.1 k0)), (1, .int a1)] := hl
  unfold fX11_check at hf
  refine lv_aload_n hx hb dX11_check_0 rfl (lv_at hl 0 rfl) ?_
  refine fg_X11_260 C hw h0 dX11_check_1 ?_
  refine lv_topi (fun x2_1 ex2_1 => ?_)
  have hf := x_lE ex2_1 hf
  refine lv_istore_n (lv' := [(2, .int x2_1), (0, .ref (g.2.2.1 k0)), (1, .int a1)]) hx hb dX11_check_4 rfl hl (by decide) rfl (fun ls hl => ?_)
  refine lv_aload_n hx hb dX11_check_5 rfl (lv_at hl 1 rfl) ?_
  refine lv_iconst (v := (0 : Int32)) hx hb dX11_check_6 (by decide) ?_
  refine fp_X11_260 C hw h0 dX11_check_7 (fun H locs hw => ?_)
  obtain ⟨M_2, eM_2⟩ : ∃ z, z = (x_up M k0 27 (0 : Int32)) := ⟨_, rfl⟩
  rw [← eM_2] at hw
  have hf := x_lE eM_2 hf
  refine lv_aload_n hx hb dX11_check_10 rfl (lv_at hl 1 rfl) ?_
  refine lv_iload_n hx hb dX11_check_11 rfl (lv_at hl 2 rfl) ?_
  obtain ⟨tv_5, tM_3, c_4, hf⟩ := x_bE hf
  refine x_vI C hw hl.1 [.int a1] [] (mX11_isPerson l g h0 c_4) lk_X11_62 h0 (by decide) rfl (by decide) rfl (Nat.le_of_ble_eq_true rfl) ⟨Nat.zero_le _, Nat.zero_le _⟩ dX11_check_12 (fun v_5 M_3 H locs hN hw => ?_)
  obtain ⟨rfl, rfl⟩ := hN
  refine lv_if_ne (tgt := 21) hx hb dX11_check_15 (by decide) (fun q_6 => ?_) (fun q_6 => ?_)
  · have hf := x_iN hf q_6
    refine lv_aload_n hx hb dX11_check_21 rfl (lv_at hl 1 rfl) ?_
    refine lv_iload_n hx hb dX11_check_22 rfl (lv_at hl 2 rfl) ?_
    obtain ⟨tv_9, tM_7, c_8, hf⟩ := x_bE hf
    refine x_vI C hw hl.1 [.int a1] [] (mX11_findLevel l g h0 c_8) lk_X11_254 h0 (by decide) rfl (by decide) rfl (Nat.le_of_ble_eq_true rfl) ⟨Nat.zero_le _, Nat.zero_le _⟩ dX11_check_23 (fun v_9 M_7 H locs hN hw => ?_)
    obtain ⟨rfl, rfl⟩ := hN
    refine lv_istore_n (lv' := [(3, .int v_9), (2, .int x2_1), (0, .ref (g.2.2.1 k0)), (1, .int a1)]) hx hb dX11_check_26 rfl hl (by decide) rfl (fun ls hl => ?_)
    refine lv_iload_n hx hb dX11_check_27 rfl (lv_at hl 0 rfl) ?_
    refine lv_iconst (v := (-1 : Int32)) hx hb dX11_check_28 (by decide) ?_
    refine lv_icmp_ne (tgt := 35) hx hb dX11_check_29 (by decide) (fun q_10 => ?_) (fun q_10 => ?_)
    · have hf := x_iN hf q_10
      refine lv_aload_n hx hb dX11_check_35 rfl (lv_at hl 2 rfl) ?_
      refine lv_iload_n hx hb dX11_check_36 rfl (lv_at hl 0 rfl) ?_
      obtain ⟨tM_11, c_12, hf⟩ := x_vE hf
      refine x_vV C hw hl.1 [.int v_9] [] (mX11_layPays l g h0 c_12) lk_X11_257 h0 (by decide) rfl (by decide) rfl (Nat.le_of_ble_eq_true rfl) ⟨Nat.zero_le _, Nat.zero_le _⟩ dX11_check_37 (fun M_11 H locs hN hw => ?_)
      obtain rfl := hN
      refine lv_iconst (v := (0 : Int32)) hx hb dX11_check_40 (by decide) ?_
      refine lv_istore (lv' := [(4, .int (0 : Int32)), (3, .int v_9), (2, .int x2_1), (0, .ref (g.2.2.1 k0)), (1, .int a1)]) hx hb dX11_check_41 hl (by decide) rfl (fun ls hl => ?_)
      refine lv_iconst (v := (0 : Int32)) hx hb dX11_check_43 (by decide) ?_
      refine lv_istore (lv' := [(5, .int (0 : Int32)), (4, .int (0 : Int32)), (3, .int v_9), (2, .int x2_1), (0, .ref (g.2.2.1 k0)), (1, .int a1)]) hx hb dX11_check_44 hl (by decide) rfl (fun ls hl => ?_)
      obtain ⟨k80_14, ek80_14, hf⟩ := x_jE hf
      have hk80_14 : ∀ (H : Heap) (locs : List Loc) (M_15 : xM) (x4_13 : Int32) (ls : Array Slot) , lv_has ls 6 [(2, .int x2_1), (0, .ref (g.2.2.1 k0)), (4, .int x4_13)] → x_w g 1 s H locs M_15 → k80_14 M_15 x4_13 = some (r, M') → W p l e (x_rm 6 150) s m args below meth c H locs 0 0 Q (F0 m 80 ls []) := by
        intro H locs M_15 x4_13 ls  hl hw hf
        rw [ek80_14] at hf
        refine lv_iconst (v := (0 : Int32)) hx hb dX11_check_80 (by decide) ?_
        refine lv_istore (lv' := [(5, .int (0 : Int32)), (2, .int x2_1), (0, .ref (g.2.2.1 k0)), (4, .int x4_13)]) hx hb dX11_check_81 hl (by decide) rfl (fun ls hl => ?_)
        obtain ⟨k124_16, ek124_16, hf⟩ := x_jE hf
        have hk124_16 : ∀ (H : Heap) (locs : List Loc) (M_17 : xM)  (ls : Array Slot) , lv_has ls 6 [(2, .int x2_1), (4, .int x4_13)] → x_w g 1 s H locs M_17 → k124_16 M_17 = some (r, M') → W p l e (x_rm 6 150) s m args below meth c H locs 0 0 Q (F0 m 124 ls []) := by
          intro H locs M_17  ls  hl hw hf
          rw [ek124_16] at hf
          refine lv_iload_n hx hb dX11_check_124 rfl (lv_at hl 0 rfl) ?_
          refine lv_iload hx hb dX11_check_125 (lv_at hl 1 rfl) ?_
          refine lv_icmp_ge (tgt := 136) hx hb dX11_check_127 (by decide) (fun q_18 => ?_) (fun q_18 => ?_)
          · have hf := x_iP hf q_18
            refine lv_iconst (v := (0 : Int32)) hx hb dX11_check_136 (by decide) ?_
            exact ret hf dX11_check_137 hw
          · have hf := x_iN hf q_18
            refine lv_iconst (v := (1 : Int32)) hx hb dX11_check_130 (by decide) ?_
            refine lv_iload_n hx hb dX11_check_131 rfl (lv_at hl 0 rfl) ?_
            refine lv_iadd hx hb dX11_check_132 ?_
            refine lv_goto (tgt := 137) hx hb dX11_check_133 (by decide) ?_
            exact ret hf dX11_check_137 hw
        obtain ⟨k113_20, ek113_20, hf⟩ := x_jE hf
        have hk113_20 : ∀ (H : Heap) (locs : List Loc) (M_21 : xM) (x5_19 : Int32) (ls : Array Slot) , lv_has ls 6 [(5, .int x5_19)] → x_w g 1 s H locs M_21 → k113_20 M_21 x5_19 = some (r, M') → W p l e (x_rm 6 150) s m args below meth c H locs 0 0 Q (F0 m 113 ls []) := by
          intro H locs M_21 x5_19 ls  hl hw hf
          rw [ek113_20] at hf
          refine lv_iconst (v := (1 : Int32)) hx hb dX11_check_113 (by decide) ?_
          refine lv_iload hx hb dX11_check_114 (lv_at hl 0 rfl) ?_
          refine lv_iadd hx hb dX11_check_116 ?_
          exact ret hf dX11_check_117 hw
        have hL_34 : ∀ (n_24 : Nat) (H : Heap) (locs : List Loc) (M_23 : xM) (x5_22 : Int32) (ls : Array Slot) , lv_has ls 6 [(2, .int x2_1), (0, .ref (g.2.2.1 k0)), (4, .int x4_13), (5, .int x5_22)] → x_w g 1 s H locs M_23 → fX11_check_L83 k0 x2_1 x4_13 k124_16 k113_20 n_24 M_23 x5_22 = some (r, M') → W p l e (x_rm 6 150) s m args below meth c H locs 0 0 Q (F0 m 83 ls []) := by
          intro n_24
          induction n_24 with
          | zero =>
            intro H locs M_23 x5_22 ls  hl hw hf
            rw [fX11_check_L83] at hf
            cases hf
          | succ n_24 ih_25 =>
            intro H locs M_23 x5_22 ls  hl hw hf
            rw [fX11_check_L83] at hf
            refine lv_iload hx hb dX11_check_83 (lv_at hl 3 rfl) ?_
            refine lv_iload_n hx hb dX11_check_85 rfl (lv_at hl 0 rfl) ?_
            refine lv_icmp_ge (tgt := 124) hx hb dX11_check_86 (by decide) (fun q_26 => ?_) (fun q_26 => ?_)
            · have hf := x_iP hf q_26
              exact hk124_16 _ _ _ _ (lv_sub hl [0, 2] rfl) hw hf
            · have hf := x_iN hf q_26
              refine lv_iload hx hb dX11_check_89 (lv_at hl 3 rfl) ?_
              refine lv_iload hx hb dX11_check_91 (lv_at hl 2 rfl) ?_
              refine lv_icmp_ge (tgt := 113) hx hb dX11_check_93 (by decide) (fun q_27 => ?_) (fun q_27 => ?_)
              · have hf := x_iP hf q_27
                exact hk113_20 _ _ _ _ _ (lv_sub hl [3] rfl) hw hf
              · have hf := x_iN hf q_27
                refine lv_aload_n hx hb dX11_check_96 rfl (lv_at hl 1 rfl) ?_
                refine fg_X11_43 C hw h0 dX11_check_97 ?_
                have h_28 : x_is 1 (xr 1 k0 26) 12 := x_tm h0 (by decide) rfl
                refine lv_iload hx hb dX11_check_100 (lv_at hl 3 rfl) ?_
                obtain ⟨q_29, hf⟩ := x_gE hf
                refine x_ald C hw h_28 q_29 dX11_check_102 ?_
                refine lv_aload_n hx hb dX11_check_103 rfl (lv_at hl 1 rfl) ?_
                refine fg_X11_40 C hw h0 dX11_check_104 ?_
                have h_30 : x_is 1 (xr 1 k0 25) 12 := x_tm h0 (by decide) rfl
                refine lv_iload hx hb dX11_check_107 (lv_at hl 3 rfl) ?_
                obtain ⟨q_31, hf⟩ := x_gE hf
                refine x_ald C hw h_30 q_31 dX11_check_109 ?_
                refine lv_icmp_eq (tgt := 118) hx hb dX11_check_110 (by decide) (fun q_32 => ?_) (fun q_32 => ?_)
                · have hf := x_iP hf q_32
                  obtain ⟨x5_33, ex5_33⟩ : ∃ z : Int32, z = (x5_22 + (1 : Int32)) := ⟨_, rfl⟩
                  have hf := x_lE ex5_33 hf
                  refine lv_iinc (v := x5_33) (lv' := [(5, .int x5_33), (2, .int x2_1), (0, .ref (g.2.2.1 k0)), (4, .int x4_13)]) hx hb dX11_check_118 hl (k := 3) rfl (by rw [ex5_33]; rfl) (by decide) rfl (fun ls hl => ?_)
                  refine lv_goto (tgt := 83) hx hb dX11_check_121 (by decide) ?_
                  exact ih_25 _ _ _ _ _ (lv_sub hl [1, 2, 3, 0] rfl) hw hf
                · have hf := x_iN hf q_32
                  exact hk113_20 _ _ _ _ _ (lv_sub hl [3] rfl) hw hf
        exact hL_34 _ _ _ _ _ _ (lv_sub hl [1, 2, 3, 0] rfl) hw hf
      have hL_48 : ∀ (n_38 : Nat) (H : Heap) (locs : List Loc) (M_37 : xM) (x4_35 : Int32) (x5_36 : Int32) (ls : Array Slot) , lv_has ls 6 [(2, .int x2_1), (0, .ref (g.2.2.1 k0)), (4, .int x4_35), (5, .int x5_36)] → x_w g 1 s H locs M_37 → fX11_check_L46 k0 k80_14 n_38 M_37 x4_35 x5_36 = some (r, M') → W p l e (x_rm 6 150) s m args below meth c H locs 0 0 Q (F0 m 46 ls []) := by
        intro n_38
        induction n_38 with
        | zero =>
          intro H locs M_37 x4_35 x5_36 ls  hl hw hf
          rw [fX11_check_L46] at hf
          cases hf
        | succ n_38 ih_39 =>
          intro H locs M_37 x4_35 x5_36 ls  hl hw hf
          rw [fX11_check_L46] at hf
          refine lv_iload hx hb dX11_check_46 (lv_at hl 3 rfl) ?_
          refine lv_bipush (v := (24 : Int32)) hx hb dX11_check_48 (by decide) ?_
          refine lv_icmp_ge (tgt := 80) hx hb dX11_check_50 (by decide) (fun q_40 => ?_) (fun q_40 => ?_)
          · have hf := x_iP hf q_40
            exact hk80_14 _ _ _ _ _ (lv_sub hl [0, 1, 2] rfl) hw hf
          · have hf := x_iN hf q_40
            refine lv_aload_n hx hb dX11_check_53 rfl (lv_at hl 1 rfl) ?_
            refine fg_X11_40 C hw h0 dX11_check_54 ?_
            have h_41 : x_is 1 (xr 1 k0 25) 12 := x_tm h0 (by decide) rfl
            refine lv_iload hx hb dX11_check_57 (lv_at hl 3 rfl) ?_
            obtain ⟨q_42, hf⟩ := x_gE hf
            refine x_ald C hw h_41 q_42 dX11_check_59 ?_
            obtain ⟨k72_44, ek72_44, hf⟩ := x_jE hf
            have hk72_44 : ∀ (H : Heap) (locs : List Loc) (M_45 : xM) (z_43 : Int32) (ls : Array Slot) , lv_has ls 6 [(2, .int x2_1), (0, .ref (g.2.2.1 k0)), (5, .int x5_36)] → x_w g 1 s H locs M_45 → k72_44 M_45 z_43 = some (r, M') → W p l e (x_rm 6 150) s m args below meth c H locs 0 0 Q (F0 m 72 ls [.int z_43]) := by
              intro H locs M_45 z_43 ls  hl hw hf
              rw [ek72_44] at hf
              refine lv_istore (lv' := [(4, .int z_43), (2, .int x2_1), (0, .ref (g.2.2.1 k0)), (5, .int x5_36)]) hx hb dX11_check_72 hl (by decide) rfl (fun ls hl => ?_)
              obtain ⟨x5_46, ex5_46⟩ : ∃ z : Int32, z = (x5_36 + (1 : Int32)) := ⟨_, rfl⟩
              have hf := x_lE ex5_46 hf
              refine lv_iinc (v := x5_46) (lv' := [(5, .int x5_46), (4, .int z_43), (2, .int x2_1), (0, .ref (g.2.2.1 k0))]) hx hb dX11_check_74 hl (k := 3) rfl (by rw [ex5_46]; rfl) (by decide) rfl (fun ls hl => ?_)
              refine lv_goto (tgt := 46) hx hb dX11_check_77 (by decide) ?_
              exact ih_39 _ _ _ _ _ _ (lv_sub hl [2, 3, 1, 0] rfl) hw hf
            refine lv_if_le (tgt := 70) hx hb dX11_check_60 (by decide) (fun q_47 => ?_) (fun q_47 => ?_)
            · have hf := x_iP hf q_47
              refine lv_iload hx hb dX11_check_70 (lv_at hl 2 rfl) ?_
              exact hk72_44 _ _ _ _ _ (lv_sub hl [0, 1, 3] rfl) hw hf
            · have hf := x_iN hf q_47
              refine lv_iload hx hb dX11_check_63 (lv_at hl 3 rfl) ?_
              refine lv_iconst (v := (1 : Int32)) hx hb dX11_check_65 (by decide) ?_
              refine lv_iadd hx hb dX11_check_66 ?_
              refine lv_goto (tgt := 72) hx hb dX11_check_67 (by decide) ?_
              exact hk72_44 _ _ _ _ _ (lv_sub hl [0, 1, 3] rfl) hw hf
      exact hL_48 _ _ _ _ _ _ _ (lv_sub hl [3, 4, 1, 0] rfl) hw hf
    · have hf := x_iP hf q_10
      refine lv_ldc hx hb hown (hB _ mk_X11_69) dX11_check_32 ?_
      exact ret hf dX11_check_34 hw
  · have hf := x_iP hf q_6
    refine lv_ldc hx hb hown (hB _ mk_X11_60) dX11_check_18 ?_
    exact ret hf dX11_check_20 hw
def fX11_weights_L4 (k0 : Nat) (a1 : Int32) : Nat → xM → Int32 → Int32 → Option (Int32 × xM)
  | 0, _, _, _ => none
  | n_4 + 1, M_3, x2_1, x3_2 => x_g (19 : Int32) (xn 1 (xr 1 k0 0)) (if (M_3 (xr 1 k0 0) (19 : Int32).toNatClampNeg) ≤ x3_2 then (some (x2_1, M_3)) else (x_g (((642 : Int32) + ((5 : Int32) * x3_2)) + (4 : Int32)) (xn 1 (xr 1 k0 0)) (x_l (fun (M_12 : xM) (z_10 : Int32) => x_l (x2_1 + z_10) fun x2_13 => x_l (x3_2 + (1 : Int32)) fun x3_14 => fX11_weights_L4 k0 a1 n_4 M_12 x2_13 x3_14) fun k52_11 => if (M_3 (xr 1 k0 0) (((642 : Int32) + ((5 : Int32) * x3_2)) + (4 : Int32)).toNatClampNeg) = a1 then (x_g (((642 : Int32) + ((5 : Int32) * x3_2)) + (3 : Int32)) (xn 1 (xr 1 k0 0)) (k52_11 M_3 (M_3 (xr 1 k0 0) (((642 : Int32) + ((5 : Int32) * x3_2)) + (3 : Int32)).toNatClampNeg))) else (k52_11 M_3 (0 : Int32)))))
def fX11_weights (M : xM) (k0 : Nat) (a1 : Int32) : Option (Int32 × xM) := fX11_weights_L4 k0 a1 x_FU M (0 : Int32) (0 : Int32)
set_option maxRecDepth 100000 in
set_option maxHeartbeats 4000000 in
theorem mX11_weights (l : Launch) (g : xG) {k0 : Nat} {a1 : Int32} {r : Int32} {M' : xM} (h0 : x_is 1 k0 11) {M : xM} (hf : fX11_weights M k0 a1 = some (r, M')) : x_cI l g 1 yX11_weights cX11_weights 4 .int 0 0 [.ref (g.2.2.1 k0), .int a1] M (fun v N => v = r ∧ N = M') := by
  refine x_stI RX11 (by decide) rfl (Nat.le_of_ble_eq_true rfl) ?_
  intro p e s m args below meth c Q ls C hw ret hl
  obtain ⟨hx, hb, hml, hown, hB, -⟩ := id C
  have hl : lv_has ls 4 [(0, .ref (g.2.2.1 k0)), (1, .int a1)] := hl
  unfold fX11_weights at hf
  refine lv_iconst (v := (0 : Int32)) hx hb dX11_weights_0 (by decide) ?_
  refine lv_istore_n (lv' := [(2, .int (0 : Int32)), (0, .ref (g.2.2.1 k0)), (1, .int a1)]) hx hb dX11_weights_1 rfl hl (by decide) rfl (fun ls hl => ?_)
  refine lv_iconst (v := (0 : Int32)) hx hb dX11_weights_2 (by decide) ?_
  refine lv_istore_n (lv' := [(3, .int (0 : Int32)), (2, .int (0 : Int32)), (0, .ref (g.2.2.1 k0)), (1, .int a1)]) hx hb dX11_weights_3 rfl hl (by decide) rfl (fun ls hl => ?_)
  have hL_17 : ∀ (n_4 : Nat) (H : Heap) (locs : List Loc) (M_3 : xM) (x2_1 : Int32) (x3_2 : Int32) (ls : Array Slot) , lv_has ls 4 [(0, .ref (g.2.2.1 k0)), (1, .int a1), (2, .int x2_1), (3, .int x3_2)] → x_w g 1 s H locs M_3 → fX11_weights_L4 k0 a1 n_4 M_3 x2_1 x3_2 = some (r, M') → W p l e (x_rm 0 0) s m args below meth c H locs 0 0 Q (F0 m 4 ls []) := by
    intro n_4
    induction n_4 with
    | zero =>
      intro H locs M_3 x2_1 x3_2 ls  hl hw hf
      rw [fX11_weights_L4] at hf
      cases hf
    | succ n_4 ih_5 =>
      intro H locs M_3 x2_1 x3_2 ls  hl hw hf
      rw [fX11_weights_L4] at hf
      refine lv_iload_n hx hb dX11_weights_4 rfl (lv_at hl 3 rfl) ?_
      refine lv_aload_n hx hb dX11_weights_5 rfl (lv_at hl 0 rfl) ?_
      refine fg_X11_7 C hw h0 dX11_weights_6 ?_
      have h_6 : x_is 1 (xr 1 k0 0) 12 := x_tm h0 (by decide) rfl
      refine lv_bipush (v := (19 : Int32)) hx hb dX11_weights_9 (by decide) ?_
      obtain ⟨q_7, hf⟩ := x_gE hf
      refine x_ald C hw h_6 q_7 dX11_weights_11 ?_
      refine lv_icmp_ge (tgt := 60) hx hb dX11_weights_12 (by decide) (fun q_8 => ?_) (fun q_8 => ?_)
      · have hf := x_iP hf q_8
        refine lv_iload_n hx hb dX11_weights_60 rfl (lv_at hl 2 rfl) ?_
        exact ret hf dX11_weights_61 hw
      · have hf := x_iN hf q_8
        refine lv_iload_n hx hb dX11_weights_15 rfl (lv_at hl 2 rfl) ?_
        refine lv_aload_n hx hb dX11_weights_16 rfl (lv_at hl 0 rfl) ?_
        refine fg_X11_7 C hw h0 dX11_weights_17 ?_
        refine lv_sipush (v := (642 : Int32)) hx hb dX11_weights_20 (by decide) ?_
        refine lv_iconst (v := (5 : Int32)) hx hb dX11_weights_23 (by decide) ?_
        refine lv_iload_n hx hb dX11_weights_24 rfl (lv_at hl 3 rfl) ?_
        refine lv_imul hx hb dX11_weights_25 ?_
        refine lv_iadd hx hb dX11_weights_26 ?_
        refine lv_iconst (v := (4 : Int32)) hx hb dX11_weights_27 (by decide) ?_
        refine lv_iadd hx hb dX11_weights_28 ?_
        obtain ⟨q_9, hf⟩ := x_gE hf
        refine x_ald C hw h_6 q_9 dX11_weights_29 ?_
        refine lv_iload_n hx hb dX11_weights_30 rfl (lv_at hl 1 rfl) ?_
        obtain ⟨k52_11, ek52_11, hf⟩ := x_jE hf
        have hk52_11 : ∀ (H : Heap) (locs : List Loc) (M_12 : xM) (z_10 : Int32) (ls : Array Slot) , lv_has ls 4 [(0, .ref (g.2.2.1 k0)), (1, .int a1), (3, .int x3_2)] → x_w g 1 s H locs M_12 → k52_11 M_12 z_10 = some (r, M') → W p l e (x_rm 0 0) s m args below meth c H locs 0 0 Q (F0 m 52 ls [.int z_10, .int x2_1]) := by
          intro H locs M_12 z_10 ls  hl hw hf
          rw [ek52_11] at hf
          refine lv_iadd hx hb dX11_weights_52 ?_
          refine lv_topi (fun x2_13 ex2_13 => ?_)
          have hf := x_lE ex2_13 hf
          refine lv_istore_n (lv' := [(2, .int x2_13), (0, .ref (g.2.2.1 k0)), (1, .int a1), (3, .int x3_2)]) hx hb dX11_weights_53 rfl hl (by decide) rfl (fun ls hl => ?_)
          obtain ⟨x3_14, ex3_14⟩ : ∃ z : Int32, z = (x3_2 + (1 : Int32)) := ⟨_, rfl⟩
          have hf := x_lE ex3_14 hf
          refine lv_iinc (v := x3_14) (lv' := [(3, .int x3_14), (2, .int x2_13), (0, .ref (g.2.2.1 k0)), (1, .int a1)]) hx hb dX11_weights_54 hl (k := 3) rfl (by rw [ex3_14]; rfl) (by decide) rfl (fun ls hl => ?_)
          refine lv_goto (tgt := 4) hx hb dX11_weights_57 (by decide) ?_
          exact ih_5 _ _ _ _ _ _ (lv_sub hl [2, 3, 1, 0] rfl) hw hf
        refine lv_icmp_ne (tgt := 51) hx hb dX11_weights_31 (by decide) (fun q_15 => ?_) (fun q_15 => ?_)
        · have hf := x_iN hf q_15
          refine lv_iconst (v := (0 : Int32)) hx hb dX11_weights_51 (by decide) ?_
          exact hk52_11 _ _ _ _ _ (lv_sub hl [0, 1, 3] rfl) hw hf
        · have hf := x_iP hf q_15
          refine lv_aload_n hx hb dX11_weights_34 rfl (lv_at hl 0 rfl) ?_
          refine fg_X11_7 C hw h0 dX11_weights_35 ?_
          refine lv_sipush (v := (642 : Int32)) hx hb dX11_weights_38 (by decide) ?_
          refine lv_iconst (v := (5 : Int32)) hx hb dX11_weights_41 (by decide) ?_
          refine lv_iload_n hx hb dX11_weights_42 rfl (lv_at hl 3 rfl) ?_
          refine lv_imul hx hb dX11_weights_43 ?_
          refine lv_iadd hx hb dX11_weights_44 ?_
          refine lv_iconst (v := (3 : Int32)) hx hb dX11_weights_45 (by decide) ?_
          refine lv_iadd hx hb dX11_weights_46 ?_
          obtain ⟨q_16, hf⟩ := x_gE hf
          refine x_ald C hw h_6 q_16 dX11_weights_47 ?_
          refine lv_goto (tgt := 52) hx hb dX11_weights_48 (by decide) ?_
          exact hk52_11 _ _ _ _ _ (lv_sub hl [0, 1, 3] rfl) hw hf
  exact hL_17 _ _ _ _ _ _ _ (lv_sub hl [2, 3, 1, 0] rfl) hw hf
def fX11_areAlike_L64 (k0 : Nat) (a1 : Int32) (a2 : Int32) : Nat → xM → Int32 → Int32 → Option (Int32 × xM)
  | 0, _, _, _ => none
  | n_16 + 1, M_15, x3_13, x4_14 => if (4 : Int32) ≤ x4_14 then (x_z x3_13 (some (x3_13, M_15))) else (x_l (fun (M_21 : xM) (z_19 : Int32) => x_l (x4_14 + (1 : Int32)) fun x4_22 => fX11_areAlike_L64 k0 a1 a2 n_16 M_21 z_19 x4_22) fun k96_20 => x_l (fun (M_24 : xM) => k96_20 M_24 (0 : Int32)) fun k95_23 => if x3_13 = 0 then (k95_23 M_15) else (x_b (fX11_deedsOf M_15 k0 a1 x4_14) fun v_28 M_26 => x_b (fX11_deedsOf M_26 k0 a2 x4_14) fun v_31 M_29 => if v_28 = v_31 then (k96_20 M_29 (1 : Int32)) else (k95_23 M_29)))
def fX11_areAlike (M : xM) (k0 : Nat) (a1 : Int32) (a2 : Int32) : Option (Int32 × xM) := x_b (fX11_weights M k0 a1) fun v_3 M_1 => x_b (fX11_weights M_1 k0 a2) fun v_6 M_4 => x_b (fX11_size M_4 (v_3 - v_6)) fun v_9 M_7 => x_l (fun (M_12 : xM) (z_10 : Int32) => fX11_areAlike_L64 k0 a1 a2 x_FU M_12 z_10 (0 : Int32)) fun k60_11 => x_l (fun (M_35 : xM) => k60_11 M_35 (0 : Int32)) fun k59_34 => if (5 : Int32) < v_9 then (k59_34 M_7) else (x_g ((792 : Int32) + ((10 : Int32) * a1)) (xn 1 (xr 1 k0 0)) (x_b (fX11_isYoung M_7 k0 (M_7 (xr 1 k0 0) ((792 : Int32) + ((10 : Int32) * a1)).toNatClampNeg)) fun v_41 M_39 => x_g ((792 : Int32) + ((10 : Int32) * a2)) (xn 1 (xr 1 k0 0)) (x_b (fX11_isYoung M_39 k0 (M_39 (xr 1 k0 0) ((792 : Int32) + ((10 : Int32) * a2)).toNatClampNeg)) fun v_45 M_43 => if v_41 = v_45 then (k60_11 M_43 (1 : Int32)) else (k59_34 M_43))))
set_option maxRecDepth 100000 in
set_option maxHeartbeats 4000000 in
theorem mX11_areAlike (l : Launch) (g : xG) {k0 : Nat} {a1 : Int32} {a2 : Int32} {r : Int32} {M' : xM} (h0 : x_is 1 k0 11) {M : xM} (hf : fX11_areAlike M k0 a1 a2 = some (r, M')) : x_cI l g 1 yX11_areAlike cX11_areAlike 5 .boolean 2 43 [.ref (g.2.2.1 k0), .int a1, .int a2] M (fun v N => v = r ∧ N = M') := by
  refine x_stZ RX11 (by decide) rfl (Nat.le_of_ble_eq_true rfl) ?_
  intro p e s m args below meth c Q ls C hw ret hl
  obtain ⟨hx, hb, hml, hown, hB, -⟩ := id C
  have hl : lv_has ls 5 [(0, .ref (g.2.2.1 k0)), (1, .int a1), (2, .int a2)] := hl
  unfold fX11_areAlike at hf
  refine lv_aload_n hx hb dX11_areAlike_0 rfl (lv_at hl 0 rfl) ?_
  refine lv_iload_n hx hb dX11_areAlike_1 rfl (lv_at hl 1 rfl) ?_
  obtain ⟨tv_3, tM_1, c_2, hf⟩ := x_bE hf
  refine x_vI C hw hl.1 [.int a1] [] (mX11_weights l g h0 c_2) lk_X11_263 h0 (by decide) rfl (by decide) rfl (Nat.le_of_ble_eq_true rfl) ⟨Nat.zero_le _, Nat.zero_le _⟩ dX11_areAlike_2 (fun v_3 M_1 H locs hN hw => ?_)
  obtain ⟨rfl, rfl⟩ := hN
  refine lv_aload_n hx hb dX11_areAlike_5 rfl (lv_at hl 0 rfl) ?_
  refine lv_iload_n hx hb dX11_areAlike_6 rfl (lv_at hl 2 rfl) ?_
  obtain ⟨tv_6, tM_4, c_5, hf⟩ := x_bE hf
  refine x_vI C hw hl.1 [.int a2] [.int v_3] (mX11_weights l g h0 c_5) lk_X11_263 h0 (by decide) rfl (by decide) rfl (Nat.le_of_ble_eq_true rfl) ⟨Nat.zero_le _, Nat.zero_le _⟩ dX11_areAlike_7 (fun v_6 M_4 H locs hN hw => ?_)
  obtain ⟨rfl, rfl⟩ := hN
  refine lv_isub hx hb dX11_areAlike_10 ?_
  obtain ⟨tv_9, tM_7, c_8, hf⟩ := x_bE hf
  refine x_sI C hw hl.1 [.int (v_3 - v_6)] [] (mX11_size l g c_8) lk_X11_266 (by decide) rfl (Nat.le_of_ble_eq_true rfl) ⟨Nat.zero_le _, Nat.zero_le _⟩ dX11_areAlike_11 (fun v_9 M_7 H locs hN hw => ?_)
  obtain ⟨rfl, rfl⟩ := hN
  refine lv_iconst (v := (5 : Int32)) hx hb dX11_areAlike_14 (by decide) ?_
  obtain ⟨k60_11, ek60_11, hf⟩ := x_jE hf
  have hk60_11 : ∀ (H : Heap) (locs : List Loc) (M_12 : xM) (z_10 : Int32) (ls : Array Slot) , lv_has ls 5 [(0, .ref (g.2.2.1 k0)), (1, .int a1), (2, .int a2)] → x_w g 1 s H locs M_12 → k60_11 M_12 z_10 = some (r, M') → W p l e (x_rm 2 43) s m args below meth c H locs 0 0 Q (F0 m 60 ls [.int z_10]) := by
    intro H locs M_12 z_10 ls  hl hw hf
    rw [ek60_11] at hf
    refine lv_istore_n (lv' := [(3, .int z_10), (0, .ref (g.2.2.1 k0)), (1, .int a1), (2, .int a2)]) hx hb dX11_areAlike_60 rfl hl (by decide) rfl (fun ls hl => ?_)
    refine lv_iconst (v := (0 : Int32)) hx hb dX11_areAlike_61 (by decide) ?_
    refine lv_istore (lv' := [(4, .int (0 : Int32)), (3, .int z_10), (0, .ref (g.2.2.1 k0)), (1, .int a1), (2, .int a2)]) hx hb dX11_areAlike_62 hl (by decide) rfl (fun ls hl => ?_)
    have hL_33 : ∀ (n_16 : Nat) (H : Heap) (locs : List Loc) (M_15 : xM) (x3_13 : Int32) (x4_14 : Int32) (ls : Array Slot) , lv_has ls 5 [(0, .ref (g.2.2.1 k0)), (1, .int a1), (2, .int a2), (3, .int x3_13), (4, .int x4_14)] → x_w g 1 s H locs M_15 → fX11_areAlike_L64 k0 a1 a2 n_16 M_15 x3_13 x4_14 = some (r, M') → W p l e (x_rm 2 43) s m args below meth c H locs 0 0 Q (F0 m 64 ls []) := by
      intro n_16
      induction n_16 with
      | zero =>
        intro H locs M_15 x3_13 x4_14 ls  hl hw hf
        rw [fX11_areAlike_L64] at hf
        cases hf
      | succ n_16 ih_17 =>
        intro H locs M_15 x3_13 x4_14 ls  hl hw hf
        rw [fX11_areAlike_L64] at hf
        refine lv_iload hx hb dX11_areAlike_64 (lv_at hl 4 rfl) ?_
        refine lv_iconst (v := (4 : Int32)) hx hb dX11_areAlike_66 (by decide) ?_
        refine lv_icmp_ge (tgt := 103) hx hb dX11_areAlike_67 (by decide) (fun q_18 => ?_) (fun q_18 => ?_)
        · have hf := x_iP hf q_18
          refine lv_iload_n hx hb dX11_areAlike_103 rfl (lv_at hl 3 rfl) ?_
          exact ret hf dX11_areAlike_104 hw
        · have hf := x_iN hf q_18
          refine lv_iload_n hx hb dX11_areAlike_70 rfl (lv_at hl 3 rfl) ?_
          obtain ⟨k96_20, ek96_20, hf⟩ := x_jE hf
          have hk96_20 : ∀ (H : Heap) (locs : List Loc) (M_21 : xM) (z_19 : Int32) (ls : Array Slot) , lv_has ls 5 [(0, .ref (g.2.2.1 k0)), (1, .int a1), (2, .int a2), (4, .int x4_14)] → x_w g 1 s H locs M_21 → k96_20 M_21 z_19 = some (r, M') → W p l e (x_rm 2 43) s m args below meth c H locs 0 0 Q (F0 m 96 ls [.int z_19]) := by
            intro H locs M_21 z_19 ls  hl hw hf
            rw [ek96_20] at hf
            refine lv_istore_n (lv' := [(3, .int z_19), (0, .ref (g.2.2.1 k0)), (1, .int a1), (2, .int a2), (4, .int x4_14)]) hx hb dX11_areAlike_96 rfl hl (by decide) rfl (fun ls hl => ?_)
            obtain ⟨x4_22, ex4_22⟩ : ∃ z : Int32, z = (x4_14 + (1 : Int32)) := ⟨_, rfl⟩
            have hf := x_lE ex4_22 hf
            refine lv_iinc (v := x4_22) (lv' := [(4, .int x4_22), (3, .int z_19), (0, .ref (g.2.2.1 k0)), (1, .int a1), (2, .int a2)]) hx hb dX11_areAlike_97 hl (k := 4) rfl (by rw [ex4_22]; rfl) (by decide) rfl (fun ls hl => ?_)
            refine lv_goto (tgt := 64) hx hb dX11_areAlike_100 (by decide) ?_
            exact ih_17 _ _ _ _ _ _ (lv_sub hl [2, 3, 4, 1, 0] rfl) hw hf
          obtain ⟨k95_23, ek95_23, hf⟩ := x_jE hf
          have hk95_23 : ∀ (H : Heap) (locs : List Loc) (M_24 : xM)  (ls : Array Slot) , lv_has ls 5 [(0, .ref (g.2.2.1 k0)), (1, .int a1), (2, .int a2), (4, .int x4_14)] → x_w g 1 s H locs M_24 → k95_23 M_24 = some (r, M') → W p l e (x_rm 2 43) s m args below meth c H locs 0 0 Q (F0 m 95 ls []) := by
            intro H locs M_24  ls  hl hw hf
            rw [ek95_23] at hf
            refine lv_iconst (v := (0 : Int32)) hx hb dX11_areAlike_95 (by decide) ?_
            exact hk96_20 _ _ _ _ _ (lv_sub hl [0, 1, 2, 3] rfl) hw hf
          refine lv_if_eq (tgt := 95) hx hb dX11_areAlike_71 (by decide) (fun q_25 => ?_) (fun q_25 => ?_)
          · have hf := x_iP hf q_25
            exact hk95_23 _ _ _ _ (lv_sub hl [0, 1, 2, 4] rfl) hw hf
          · have hf := x_iN hf q_25
            refine lv_aload_n hx hb dX11_areAlike_74 rfl (lv_at hl 0 rfl) ?_
            refine lv_iload_n hx hb dX11_areAlike_75 rfl (lv_at hl 1 rfl) ?_
            refine lv_iload hx hb dX11_areAlike_76 (lv_at hl 4 rfl) ?_
            obtain ⟨tv_28, tM_26, c_27, hf⟩ := x_bE hf
            refine x_vI C hw hl.1 [.int a1, .int x4_14] [] (mX11_deedsOf l g h0 c_27) lk_X11_213 h0 (by decide) rfl (by decide) rfl (Nat.le_of_ble_eq_true rfl) ⟨Nat.zero_le _, Nat.zero_le _⟩ dX11_areAlike_78 (fun v_28 M_26 H locs hN hw => ?_)
            obtain ⟨rfl, rfl⟩ := hN
            refine lv_aload_n hx hb dX11_areAlike_81 rfl (lv_at hl 0 rfl) ?_
            refine lv_iload_n hx hb dX11_areAlike_82 rfl (lv_at hl 2 rfl) ?_
            refine lv_iload hx hb dX11_areAlike_83 (lv_at hl 4 rfl) ?_
            obtain ⟨tv_31, tM_29, c_30, hf⟩ := x_bE hf
            refine x_vI C hw hl.1 [.int a2, .int x4_14] [.int v_28] (mX11_deedsOf l g h0 c_30) lk_X11_213 h0 (by decide) rfl (by decide) rfl (Nat.le_of_ble_eq_true rfl) ⟨Nat.zero_le _, Nat.zero_le _⟩ dX11_areAlike_85 (fun v_31 M_29 H locs hN hw => ?_)
            obtain ⟨rfl, rfl⟩ := hN
            refine lv_icmp_ne (tgt := 95) hx hb dX11_areAlike_88 (by decide) (fun q_32 => ?_) (fun q_32 => ?_)
            · have hf := x_iN hf q_32
              exact hk95_23 _ _ _ _ (lv_sub hl [0, 1, 2, 4] rfl) hw hf
            · have hf := x_iP hf q_32
              refine lv_iconst (v := (1 : Int32)) hx hb dX11_areAlike_91 (by decide) ?_
              refine lv_goto (tgt := 96) hx hb dX11_areAlike_92 (by decide) ?_
              exact hk96_20 _ _ _ _ _ (lv_sub hl [0, 1, 2, 4] rfl) hw hf
    exact hL_33 _ _ _ _ _ _ _ (lv_sub hl [2, 3, 4, 1, 0] rfl) hw hf
  obtain ⟨k59_34, ek59_34, hf⟩ := x_jE hf
  have hk59_34 : ∀ (H : Heap) (locs : List Loc) (M_35 : xM)  (ls : Array Slot) , lv_has ls 5 [(0, .ref (g.2.2.1 k0)), (1, .int a1), (2, .int a2)] → x_w g 1 s H locs M_35 → k59_34 M_35 = some (r, M') → W p l e (x_rm 2 43) s m args below meth c H locs 0 0 Q (F0 m 59 ls []) := by
    intro H locs M_35  ls  hl hw hf
    rw [ek59_34] at hf
    refine lv_iconst (v := (0 : Int32)) hx hb dX11_areAlike_59 (by decide) ?_
    exact hk60_11 _ _ _ _ _ (lv_sub hl [0, 1, 2] rfl) hw hf
  refine lv_icmp_gt (tgt := 59) hx hb dX11_areAlike_15 (by decide) (fun q_36 => ?_) (fun q_36 => ?_)
  · have hf := x_iP hf q_36
    exact hk59_34 _ _ _ _ (lv_sub hl [0, 1, 2] rfl) hw hf
  · have hf := x_iN hf q_36
    refine lv_aload_n hx hb dX11_areAlike_18 rfl (lv_at hl 0 rfl) ?_
    refine lv_aload_n hx hb dX11_areAlike_19 rfl (lv_at hl 0 rfl) ?_
    refine fg_X11_7 C hw h0 dX11_areAlike_20 ?_
    have h_37 : x_is 1 (xr 1 k0 0) 12 := x_tm h0 (by decide) rfl
    refine lv_sipush (v := (792 : Int32)) hx hb dX11_areAlike_23 (by decide) ?_
    refine lv_bipush (v := (10 : Int32)) hx hb dX11_areAlike_26 (by decide) ?_
    refine lv_iload_n hx hb dX11_areAlike_28 rfl (lv_at hl 1 rfl) ?_
    refine lv_imul hx hb dX11_areAlike_29 ?_
    refine lv_iadd hx hb dX11_areAlike_30 ?_
    obtain ⟨q_38, hf⟩ := x_gE hf
    refine x_ald C hw h_37 q_38 dX11_areAlike_31 ?_
    obtain ⟨tv_41, tM_39, c_40, hf⟩ := x_bE hf
    refine x_vI C hw hl.1 [.int (M_7 (xr 1 k0 0) ((792 : Int32) + ((10 : Int32) * a1)).toNatClampNeg)] [] (mX11_isYoung l g h0 c_40) lk_X11_66 h0 (by decide) rfl (by decide) rfl (Nat.le_of_ble_eq_true rfl) ⟨Nat.zero_le _, Nat.zero_le _⟩ dX11_areAlike_32 (fun v_41 M_39 H locs hN hw => ?_)
    obtain ⟨rfl, rfl⟩ := hN
    refine lv_aload_n hx hb dX11_areAlike_35 rfl (lv_at hl 0 rfl) ?_
    refine lv_aload_n hx hb dX11_areAlike_36 rfl (lv_at hl 0 rfl) ?_
    refine fg_X11_7 C hw h0 dX11_areAlike_37 ?_
    refine lv_sipush (v := (792 : Int32)) hx hb dX11_areAlike_40 (by decide) ?_
    refine lv_bipush (v := (10 : Int32)) hx hb dX11_areAlike_43 (by decide) ?_
    refine lv_iload_n hx hb dX11_areAlike_45 rfl (lv_at hl 2 rfl) ?_
    refine lv_imul hx hb dX11_areAlike_46 ?_
    refine lv_iadd hx hb dX11_areAlike_47 ?_
    obtain ⟨q_42, hf⟩ := x_gE hf
    refine x_ald C hw h_37 q_42 dX11_areAlike_48 ?_
    obtain ⟨tv_45, tM_43, c_44, hf⟩ := x_bE hf
    refine x_vI C hw hl.1 [.int (M_39 (xr 1 k0 0) ((792 : Int32) + ((10 : Int32) * a2)).toNatClampNeg)] [.int v_41] (mX11_isYoung l g h0 c_44) lk_X11_66 h0 (by decide) rfl (by decide) rfl (Nat.le_of_ble_eq_true rfl) ⟨Nat.zero_le _, Nat.zero_le _⟩ dX11_areAlike_49 (fun v_45 M_43 H locs hN hw => ?_)
    obtain ⟨rfl, rfl⟩ := hN
    refine lv_icmp_ne (tgt := 59) hx hb dX11_areAlike_52 (by decide) (fun q_46 => ?_) (fun q_46 => ?_)
    · have hf := x_iN hf q_46
      exact hk59_34 _ _ _ _ (lv_sub hl [0, 1, 2] rfl) hw hf
    · have hf := x_iP hf q_46
      refine lv_iconst (v := (1 : Int32)) hx hb dX11_areAlike_55 (by decide) ?_
      refine lv_goto (tgt := 60) hx hb dX11_areAlike_56 (by decide) ?_
      exact hk60_11 _ _ _ _ _ (lv_sub hl [0, 1, 2] rfl) hw hf
def fX11_alike (M : xM) (k0 : Nat) (a1 : Int32) (a2 : Int32) : Option (Int32 × xM) := x_b (fX11_isJudgment M k0 a1) fun v_3 M_1 => if v_3 = 0 then (some ((-1000000001 : Int32), M_1)) else (x_b (fX11_isJudgment M_1 k0 a2) fun v_7 M_5 => if v_7 = 0 then (some ((-1000000001 : Int32), M_5)) else (if a1 = a2 then (some ((-1000000001 : Int32), M_5)) else (x_b (fX11_areAlike M_5 k0 a1 a2) fun v_12 M_10 => if v_12 = 0 then (some ((0 : Int32), M_10)) else (some ((1 : Int32), M_10)))))
set_option maxRecDepth 100000 in
set_option maxHeartbeats 4000000 in
theorem mX11_alike (l : Launch) (g : xG) {k0 : Nat} {a1 : Int32} {a2 : Int32} {r : Int32} {M' : xM} (h0 : x_is 1 k0 11) {M : xM} (hf : fX11_alike M k0 a1 a2 = some (r, M')) : x_cI l g 1 yX11_alike cX11_alike 3 .int 3 67 [.ref (g.2.2.1 k0), .int a1, .int a2] M (fun v N => v = r ∧ N = M') := by
  refine x_stI RX11 (by decide) rfl (Nat.le_of_ble_eq_true rfl) ?_
  intro p e s m args below meth c Q ls C hw ret hl
  obtain ⟨hx, hb, hml, hown, hB, -⟩ := id C
  have hl : lv_has ls 3 [(0, .ref (g.2.2.1 k0)), (1, .int a1), (2, .int a2)] := hl
  unfold fX11_alike at hf
  refine lv_aload_n hx hb dX11_alike_0 rfl (lv_at hl 0 rfl) ?_
  refine lv_iload_n hx hb dX11_alike_1 rfl (lv_at hl 1 rfl) ?_
  obtain ⟨tv_3, tM_1, c_2, hf⟩ := x_bE hf
  refine x_vI C hw hl.1 [.int a1] [] (mX11_isJudgment l g h0 c_2) lk_X11_221 h0 (by decide) rfl (by decide) rfl (Nat.le_of_ble_eq_true rfl) ⟨Nat.zero_le _, Nat.zero_le _⟩ dX11_alike_2 (fun v_3 M_1 H locs hN hw => ?_)
  obtain ⟨rfl, rfl⟩ := hN
  refine lv_if_eq (tgt := 21) hx hb dX11_alike_5 (by decide) (fun q_4 => ?_) (fun q_4 => ?_)
  · have hf := x_iP hf q_4
    refine lv_ldc hx hb hown (hB _ mk_X11_60) dX11_alike_21 ?_
    exact ret hf dX11_alike_23 hw
  · have hf := x_iN hf q_4
    refine lv_aload_n hx hb dX11_alike_8 rfl (lv_at hl 0 rfl) ?_
    refine lv_iload_n hx hb dX11_alike_9 rfl (lv_at hl 2 rfl) ?_
    obtain ⟨tv_7, tM_5, c_6, hf⟩ := x_bE hf
    refine x_vI C hw hl.1 [.int a2] [] (mX11_isJudgment l g h0 c_6) lk_X11_221 h0 (by decide) rfl (by decide) rfl (Nat.le_of_ble_eq_true rfl) ⟨Nat.zero_le _, Nat.zero_le _⟩ dX11_alike_10 (fun v_7 M_5 H locs hN hw => ?_)
    obtain ⟨rfl, rfl⟩ := hN
    refine lv_if_eq (tgt := 21) hx hb dX11_alike_13 (by decide) (fun q_8 => ?_) (fun q_8 => ?_)
    · have hf := x_iP hf q_8
      refine lv_ldc hx hb hown (hB _ mk_X11_60) dX11_alike_21 ?_
      exact ret hf dX11_alike_23 hw
    · have hf := x_iN hf q_8
      refine lv_iload_n hx hb dX11_alike_16 rfl (lv_at hl 1 rfl) ?_
      refine lv_iload_n hx hb dX11_alike_17 rfl (lv_at hl 2 rfl) ?_
      refine lv_icmp_ne (tgt := 24) hx hb dX11_alike_18 (by decide) (fun q_9 => ?_) (fun q_9 => ?_)
      · have hf := x_iN hf q_9
        refine lv_aload_n hx hb dX11_alike_24 rfl (lv_at hl 0 rfl) ?_
        refine lv_iload_n hx hb dX11_alike_25 rfl (lv_at hl 1 rfl) ?_
        refine lv_iload_n hx hb dX11_alike_26 rfl (lv_at hl 2 rfl) ?_
        obtain ⟨tv_12, tM_10, c_11, hf⟩ := x_bE hf
        refine x_vI C hw hl.1 [.int a1, .int a2] [] (mX11_areAlike l g h0 c_11) lk_X11_269 h0 (by decide) rfl (by decide) rfl (Nat.le_of_ble_eq_true rfl) ⟨Nat.zero_le _, Nat.zero_le _⟩ dX11_alike_27 (fun v_12 M_10 H locs hN hw => ?_)
        obtain ⟨rfl, rfl⟩ := hN
        refine lv_if_eq (tgt := 37) hx hb dX11_alike_30 (by decide) (fun q_13 => ?_) (fun q_13 => ?_)
        · have hf := x_iP hf q_13
          refine lv_iconst (v := (0 : Int32)) hx hb dX11_alike_37 (by decide) ?_
          exact ret hf dX11_alike_38 hw
        · have hf := x_iN hf q_13
          refine lv_iconst (v := (1 : Int32)) hx hb dX11_alike_33 (by decide) ?_
          refine lv_goto (tgt := 38) hx hb dX11_alike_34 (by decide) ?_
          exact ret hf dX11_alike_38 hw
      · have hf := x_iP hf q_9
        refine lv_ldc hx hb hown (hB _ mk_X11_60) dX11_alike_21 ?_
        exact ret hf dX11_alike_23 hw
def fX11_unlike_L23 (k0 : Nat) (x3_3 : Int32) (k108_13 : xM → Int32 → Int32 → Option (Int32 × xM)) : Nat → xM → Int32 → Int32 → Int32 → Option (Int32 × xM)
  | 0, _, _, _, _ => none
  | n_20 + 1, M_19, x1_16, x2_17, x4_18 => x_g (20 : Int32) (xn 1 (xr 1 k0 0)) (if (M_19 (xr 1 k0 0) (20 : Int32).toNatClampNeg) ≤ x4_18 then (k108_13 M_19 x1_16 x2_17) else (x_g (((792 : Int32) + ((10 : Int32) * x3_3)) + (2 : Int32)) (xn 1 (xr 1 k0 0)) (x_g (((792 : Int32) + ((10 : Int32) * x4_18)) + (2 : Int32)) (xn 1 (xr 1 k0 0)) (x_b (fX11_size M_19 ((M_19 (xr 1 k0 0) (((792 : Int32) + ((10 : Int32) * x3_3)) + (2 : Int32)).toNatClampNeg) - (M_19 (xr 1 k0 0) (((792 : Int32) + ((10 : Int32) * x4_18)) + (2 : Int32)).toNatClampNeg))) fun v_28 M_26 => x_l (fun (M_32 : xM) (x1_29 : Int32) (x2_30 : Int32) => x_l (x4_18 + (1 : Int32)) fun x4_33 => fX11_unlike_L23 k0 x3_3 k108_13 n_20 M_32 x1_29 x2_30 x4_33) fun k102_31 => if v_28 ≤ x2_17 then (k102_31 M_26 x1_16 x2_17) else (x_b (fX11_areAlike M_26 k0 x3_3 x4_18) fun v_37 M_35 => if v_37 = 0 then (k102_31 M_35 x1_16 x2_17) else (x_l (((100 : Int32) * x3_3) + x4_18) fun x1_39 => k102_31 M_35 x1_39 v_28))))))
def fX11_unlike_L7 (k0 : Nat) : Nat → xM → Int32 → Int32 → Int32 → Option (Int32 × xM)
  | 0, _, _, _, _ => none
  | n_5 + 1, M_4, x1_1, x2_2, x3_3 => x_g (20 : Int32) (xn 1 (xr 1 k0 0)) (if (M_4 (xr 1 k0 0) (20 : Int32).toNatClampNeg) ≤ x3_3 then (some (x1_1, M_4)) else (x_l (x3_3 + (1 : Int32)) fun x4_10 => x_l (fun (M_14 : xM) (x1_11 : Int32) (x2_12 : Int32) => x_l (x3_3 + (1 : Int32)) fun x3_15 => fX11_unlike_L7 k0 n_5 M_14 x1_11 x2_12 x3_15) fun k108_13 => fX11_unlike_L23 k0 x3_3 k108_13 x_FU M_4 x1_1 x2_2 x4_10))
def fX11_unlike (M : xM) (k0 : Nat) : Option (Int32 × xM) := fX11_unlike_L7 k0 x_FU M (-1000000005 : Int32) (0 : Int32) (0 : Int32)
set_option maxRecDepth 100000 in
set_option maxHeartbeats 4000000 in
theorem mX11_unlike (l : Launch) (g : xG) {k0 : Nat} {r : Int32} {M' : xM} (h0 : x_is 1 k0 11) {M : xM} (hf : fX11_unlike M k0 = some (r, M')) : x_cI l g 1 yX11_unlike cX11_unlike 6 .int 3 67 [.ref (g.2.2.1 k0)] M (fun v N => v = r ∧ N = M') := by
  refine x_stI RX11 (by decide) rfl (Nat.le_of_ble_eq_true rfl) ?_
  intro p e s m args below meth c Q ls C hw ret hl
  obtain ⟨hx, hb, hml, hown, hB, -⟩ := id C
  have hl : lv_has ls 6 [(0, .ref (g.2.2.1 k0))] := hl
  unfold fX11_unlike at hf
  refine lv_ldc hx hb hown (hB _ mk_X11_55) dX11_unlike_0 ?_
  refine lv_istore_n (lv' := [(1, .int (-1000000005 : Int32)), (0, .ref (g.2.2.1 k0))]) hx hb dX11_unlike_2 rfl hl (by decide) rfl (fun ls hl => ?_)
  refine lv_iconst (v := (0 : Int32)) hx hb dX11_unlike_3 (by decide) ?_
  refine lv_istore_n (lv' := [(2, .int (0 : Int32)), (1, .int (-1000000005 : Int32)), (0, .ref (g.2.2.1 k0))]) hx hb dX11_unlike_4 rfl hl (by decide) rfl (fun ls hl => ?_)
  refine lv_iconst (v := (0 : Int32)) hx hb dX11_unlike_5 (by decide) ?_
  refine lv_istore_n (lv' := [(3, .int (0 : Int32)), (2, .int (0 : Int32)), (1, .int (-1000000005 : Int32)), (0, .ref (g.2.2.1 k0))]) hx hb dX11_unlike_6 rfl hl (by decide) rfl (fun ls hl => ?_)
  have hL_41 : ∀ (n_5 : Nat) (H : Heap) (locs : List Loc) (M_4 : xM) (x1_1 : Int32) (x2_2 : Int32) (x3_3 : Int32) (ls : Array Slot) , lv_has ls 6 [(0, .ref (g.2.2.1 k0)), (1, .int x1_1), (2, .int x2_2), (3, .int x3_3)] → x_w g 1 s H locs M_4 → fX11_unlike_L7 k0 n_5 M_4 x1_1 x2_2 x3_3 = some (r, M') → W p l e (x_rm 3 67) s m args below meth c H locs 0 0 Q (F0 m 7 ls []) := by
    intro n_5
    induction n_5 with
    | zero =>
      intro H locs M_4 x1_1 x2_2 x3_3 ls  hl hw hf
      rw [fX11_unlike_L7] at hf
      cases hf
    | succ n_5 ih_6 =>
      intro H locs M_4 x1_1 x2_2 x3_3 ls  hl hw hf
      rw [fX11_unlike_L7] at hf
      refine lv_iload_n hx hb dX11_unlike_7 rfl (lv_at hl 3 rfl) ?_
      refine lv_aload_n hx hb dX11_unlike_8 rfl (lv_at hl 0 rfl) ?_
      refine fg_X11_7 C hw h0 dX11_unlike_9 ?_
      have h_7 : x_is 1 (xr 1 k0 0) 12 := x_tm h0 (by decide) rfl
      refine lv_bipush (v := (20 : Int32)) hx hb dX11_unlike_12 (by decide) ?_
      obtain ⟨q_8, hf⟩ := x_gE hf
      refine x_ald C hw h_7 q_8 dX11_unlike_14 ?_
      refine lv_icmp_ge (tgt := 114) hx hb dX11_unlike_15 (by decide) (fun q_9 => ?_) (fun q_9 => ?_)
      · have hf := x_iP hf q_9
        refine lv_iload_n hx hb dX11_unlike_114 rfl (lv_at hl 1 rfl) ?_
        exact ret hf dX11_unlike_115 hw
      · have hf := x_iN hf q_9
        refine lv_iload_n hx hb dX11_unlike_18 rfl (lv_at hl 3 rfl) ?_
        refine lv_iconst (v := (1 : Int32)) hx hb dX11_unlike_19 (by decide) ?_
        refine lv_iadd hx hb dX11_unlike_20 ?_
        refine lv_topi (fun x4_10 ex4_10 => ?_)
        have hf := x_lE ex4_10 hf
        refine lv_istore (lv' := [(4, .int x4_10), (0, .ref (g.2.2.1 k0)), (1, .int x1_1), (2, .int x2_2), (3, .int x3_3)]) hx hb dX11_unlike_21 hl (by decide) rfl (fun ls hl => ?_)
        obtain ⟨k108_13, ek108_13, hf⟩ := x_jE hf
        have hk108_13 : ∀ (H : Heap) (locs : List Loc) (M_14 : xM) (x1_11 : Int32) (x2_12 : Int32) (ls : Array Slot) , lv_has ls 6 [(0, .ref (g.2.2.1 k0)), (3, .int x3_3), (1, .int x1_11), (2, .int x2_12)] → x_w g 1 s H locs M_14 → k108_13 M_14 x1_11 x2_12 = some (r, M') → W p l e (x_rm 3 67) s m args below meth c H locs 0 0 Q (F0 m 108 ls []) := by
          intro H locs M_14 x1_11 x2_12 ls  hl hw hf
          rw [ek108_13] at hf
          obtain ⟨x3_15, ex3_15⟩ : ∃ z : Int32, z = (x3_3 + (1 : Int32)) := ⟨_, rfl⟩
          have hf := x_lE ex3_15 hf
          refine lv_iinc (v := x3_15) (lv' := [(3, .int x3_15), (0, .ref (g.2.2.1 k0)), (1, .int x1_11), (2, .int x2_12)]) hx hb dX11_unlike_108 hl (k := 1) rfl (by rw [ex3_15]; rfl) (by decide) rfl (fun ls hl => ?_)
          refine lv_goto (tgt := 7) hx hb dX11_unlike_111 (by decide) ?_
          exact ih_6 _ _ _ _ _ _ _ (lv_sub hl [1, 2, 3, 0] rfl) hw hf
        have hL_40 : ∀ (n_20 : Nat) (H : Heap) (locs : List Loc) (M_19 : xM) (x1_16 : Int32) (x2_17 : Int32) (x4_18 : Int32) (ls : Array Slot) , lv_has ls 6 [(0, .ref (g.2.2.1 k0)), (3, .int x3_3), (1, .int x1_16), (2, .int x2_17), (4, .int x4_18)] → x_w g 1 s H locs M_19 → fX11_unlike_L23 k0 x3_3 k108_13 n_20 M_19 x1_16 x2_17 x4_18 = some (r, M') → W p l e (x_rm 3 67) s m args below meth c H locs 0 0 Q (F0 m 23 ls []) := by
          intro n_20
          induction n_20 with
          | zero =>
            intro H locs M_19 x1_16 x2_17 x4_18 ls  hl hw hf
            rw [fX11_unlike_L23] at hf
            cases hf
          | succ n_20 ih_21 =>
            intro H locs M_19 x1_16 x2_17 x4_18 ls  hl hw hf
            rw [fX11_unlike_L23] at hf
            refine lv_iload hx hb dX11_unlike_23 (lv_at hl 4 rfl) ?_
            refine lv_aload_n hx hb dX11_unlike_25 rfl (lv_at hl 0 rfl) ?_
            refine fg_X11_7 C hw h0 dX11_unlike_26 ?_
            refine lv_bipush (v := (20 : Int32)) hx hb dX11_unlike_29 (by decide) ?_
            obtain ⟨q_22, hf⟩ := x_gE hf
            refine x_ald C hw h_7 q_22 dX11_unlike_31 ?_
            refine lv_icmp_ge (tgt := 108) hx hb dX11_unlike_32 (by decide) (fun q_23 => ?_) (fun q_23 => ?_)
            · have hf := x_iP hf q_23
              exact hk108_13 _ _ _ _ _ _ (lv_sub hl [0, 1, 2, 3] rfl) hw hf
            · have hf := x_iN hf q_23
              refine lv_aload_n hx hb dX11_unlike_35 rfl (lv_at hl 0 rfl) ?_
              refine fg_X11_7 C hw h0 dX11_unlike_36 ?_
              refine lv_sipush (v := (792 : Int32)) hx hb dX11_unlike_39 (by decide) ?_
              refine lv_bipush (v := (10 : Int32)) hx hb dX11_unlike_42 (by decide) ?_
              refine lv_iload_n hx hb dX11_unlike_44 rfl (lv_at hl 1 rfl) ?_
              refine lv_imul hx hb dX11_unlike_45 ?_
              refine lv_iadd hx hb dX11_unlike_46 ?_
              refine lv_iconst (v := (2 : Int32)) hx hb dX11_unlike_47 (by decide) ?_
              refine lv_iadd hx hb dX11_unlike_48 ?_
              obtain ⟨q_24, hf⟩ := x_gE hf
              refine x_ald C hw h_7 q_24 dX11_unlike_49 ?_
              refine lv_aload_n hx hb dX11_unlike_50 rfl (lv_at hl 0 rfl) ?_
              refine fg_X11_7 C hw h0 dX11_unlike_51 ?_
              refine lv_sipush (v := (792 : Int32)) hx hb dX11_unlike_54 (by decide) ?_
              refine lv_bipush (v := (10 : Int32)) hx hb dX11_unlike_57 (by decide) ?_
              refine lv_iload hx hb dX11_unlike_59 (lv_at hl 4 rfl) ?_
              refine lv_imul hx hb dX11_unlike_61 ?_
              refine lv_iadd hx hb dX11_unlike_62 ?_
              refine lv_iconst (v := (2 : Int32)) hx hb dX11_unlike_63 (by decide) ?_
              refine lv_iadd hx hb dX11_unlike_64 ?_
              obtain ⟨q_25, hf⟩ := x_gE hf
              refine x_ald C hw h_7 q_25 dX11_unlike_65 ?_
              refine lv_isub hx hb dX11_unlike_66 ?_
              obtain ⟨tv_28, tM_26, c_27, hf⟩ := x_bE hf
              refine x_sI C hw hl.1 [.int ((M_19 (xr 1 k0 0) (((792 : Int32) + ((10 : Int32) * x3_3)) + (2 : Int32)).toNatClampNeg) - (M_19 (xr 1 k0 0) (((792 : Int32) + ((10 : Int32) * x4_18)) + (2 : Int32)).toNatClampNeg))] [] (mX11_size l g c_27) lk_X11_266 (by decide) rfl (Nat.le_of_ble_eq_true rfl) ⟨Nat.zero_le _, Nat.zero_le _⟩ dX11_unlike_67 (fun v_28 M_26 H locs hN hw => ?_)
              obtain ⟨rfl, rfl⟩ := hN
              refine lv_istore (lv' := [(5, .int v_28), (0, .ref (g.2.2.1 k0)), (3, .int x3_3), (1, .int x1_16), (2, .int x2_17), (4, .int x4_18)]) hx hb dX11_unlike_70 hl (by decide) rfl (fun ls hl => ?_)
              refine lv_iload hx hb dX11_unlike_72 (lv_at hl 0 rfl) ?_
              refine lv_iload_n hx hb dX11_unlike_74 rfl (lv_at hl 4 rfl) ?_
              obtain ⟨k102_31, ek102_31, hf⟩ := x_jE hf
              have hk102_31 : ∀ (H : Heap) (locs : List Loc) (M_32 : xM) (x1_29 : Int32) (x2_30 : Int32) (ls : Array Slot) , lv_has ls 6 [(0, .ref (g.2.2.1 k0)), (3, .int x3_3), (4, .int x4_18), (1, .int x1_29), (2, .int x2_30)] → x_w g 1 s H locs M_32 → k102_31 M_32 x1_29 x2_30 = some (r, M') → W p l e (x_rm 3 67) s m args below meth c H locs 0 0 Q (F0 m 102 ls []) := by
                intro H locs M_32 x1_29 x2_30 ls  hl hw hf
                rw [ek102_31] at hf
                obtain ⟨x4_33, ex4_33⟩ : ∃ z : Int32, z = (x4_18 + (1 : Int32)) := ⟨_, rfl⟩
                have hf := x_lE ex4_33 hf
                refine lv_iinc (v := x4_33) (lv' := [(4, .int x4_33), (0, .ref (g.2.2.1 k0)), (3, .int x3_3), (1, .int x1_29), (2, .int x2_30)]) hx hb dX11_unlike_102 hl (k := 2) rfl (by rw [ex4_33]; rfl) (by decide) rfl (fun ls hl => ?_)
                refine lv_goto (tgt := 23) hx hb dX11_unlike_105 (by decide) ?_
                exact ih_21 _ _ _ _ _ _ _ (lv_sub hl [1, 2, 3, 4, 0] rfl) hw hf
              refine lv_icmp_le (tgt := 102) hx hb dX11_unlike_75 (by decide) (fun q_34 => ?_) (fun q_34 => ?_)
              · have hf := x_iP hf q_34
                exact hk102_31 _ _ _ _ _ _ (lv_sub hl [1, 2, 5, 3, 4] rfl) hw hf
              · have hf := x_iN hf q_34
                refine lv_aload_n hx hb dX11_unlike_78 rfl (lv_at hl 1 rfl) ?_
                refine lv_iload_n hx hb dX11_unlike_79 rfl (lv_at hl 2 rfl) ?_
                refine lv_iload hx hb dX11_unlike_80 (lv_at hl 5 rfl) ?_
                obtain ⟨tv_37, tM_35, c_36, hf⟩ := x_bE hf
                refine x_vI C hw hl.1 [.int x3_3, .int x4_18] [] (mX11_areAlike l g h0 c_36) lk_X11_269 h0 (by decide) rfl (by decide) rfl (Nat.le_of_ble_eq_true rfl) ⟨Nat.zero_le _, Nat.zero_le _⟩ dX11_unlike_82 (fun v_37 M_35 H locs hN hw => ?_)
                obtain ⟨rfl, rfl⟩ := hN
                refine lv_if_ne (tgt := 91) hx hb dX11_unlike_85 (by decide) (fun q_38 => ?_) (fun q_38 => ?_)
                · have hf := x_iN hf q_38
                  refine lv_iload hx hb dX11_unlike_91 (lv_at hl 0 rfl) ?_
                  refine lv_istore_n (lv' := [(2, .int v_28), (5, .int v_28), (0, .ref (g.2.2.1 k0)), (3, .int x3_3), (1, .int x1_16), (4, .int x4_18)]) hx hb dX11_unlike_93 rfl hl (by decide) rfl (fun ls hl => ?_)
                  refine lv_bipush (v := (100 : Int32)) hx hb dX11_unlike_94 (by decide) ?_
                  refine lv_iload_n hx hb dX11_unlike_96 rfl (lv_at hl 3 rfl) ?_
                  refine lv_imul hx hb dX11_unlike_97 ?_
                  refine lv_iload hx hb dX11_unlike_98 (lv_at hl 5 rfl) ?_
                  refine lv_iadd hx hb dX11_unlike_100 ?_
                  refine lv_topi (fun x1_39 ex1_39 => ?_)
                  have hf := x_lE ex1_39 hf
                  refine lv_istore_n (lv' := [(1, .int x1_39), (2, .int v_28), (5, .int v_28), (0, .ref (g.2.2.1 k0)), (3, .int x3_3), (4, .int x4_18)]) hx hb dX11_unlike_101 rfl hl (by decide) rfl (fun ls hl => ?_)
                  exact hk102_31 _ _ _ _ _ _ (lv_sub hl [3, 4, 5, 0, 1] rfl) hw hf
                · have hf := x_iP hf q_38
                  refine lv_goto (tgt := 102) hx hb dX11_unlike_88 (by decide) ?_
                  exact hk102_31 _ _ _ _ _ _ (lv_sub hl [1, 2, 5, 3, 4] rfl) hw hf
        exact hL_40 _ _ _ _ _ _ _ _ (lv_sub hl [1, 4, 2, 3, 0] rfl) hw hf
  exact hL_41 _ _ _ _ _ _ _ _ (lv_sub hl [3, 2, 1, 0] rfl) hw hf
def fX11_spread_L19 (k0 : Nat) (a1 : Int32) (k95_7 : xM → Int32 → Int32 → Option (Int32 × xM)) : Nat → xM → Int32 → Int32 → Int32 → Option (Int32 × xM)
  | 0, _, _, _, _ => none
  | n_14 + 1, M_13, x2_10, x3_11, x4_12 => x_g (20 : Int32) (xn 1 (xr 1 k0 0)) (if (M_13 (xr 1 k0 0) (20 : Int32).toNatClampNeg) ≤ x4_12 then (k95_7 M_13 x2_10 x3_11) else (x_l (fun (M_21 : xM) (z_19 : Int32) => x_b (fX11_share M_21 k0 x4_12 z_19) fun v_24 M_22 => x_l (fun (M_27 : xM) (z_25 : Int32) => x_l (fun (M_30 : xM) (z_28 : Int32) => x_l (x4_12 + (1 : Int32)) fun x4_31 => fX11_spread_L19 k0 a1 k95_7 n_14 M_30 z_25 z_28 x4_31) fun k88_29 => if v_24 ≤ x3_11 then (k88_29 M_27 x3_11) else (k88_29 M_27 v_24)) fun k75_26 => x_l (fun (M_34 : xM) => k75_26 M_34 v_24) fun k69_33 => if x2_10 = (-1 : Int32) then (k69_33 M_22) else (if x2_10 ≤ v_24 then (k75_26 M_22 x2_10) else (k69_33 M_22))) fun k53_20 => if a1 = 0 then (x_b (fX11_fine M_13 k0 x4_12) fun v_43 M_41 => k53_20 M_41 v_43) else (x_b (fX11_flatOf M_13 k0 x4_12) fun v_40 M_38 => k53_20 M_38 v_40)))
def fX11_spread (M : xM) (k0 : Nat) (a1 : Int32) : Option (Int32 × xM) := x_b (fX11_in M a1 (0 : Int32) (1 : Int32)) fun v_3 M_1 => if v_3 = 0 then (some ((-1000000001 : Int32), M_1)) else (x_l (fun (M_8 : xM) (x2_5 : Int32) (x3_6 : Int32) => if x2_5 = (-1 : Int32) then (some ((0 : Int32), M_8)) else (some ((x3_6 - x2_5), M_8))) fun k95_7 => fX11_spread_L19 k0 a1 k95_7 x_FU M_1 (-1 : Int32) (0 : Int32) (0 : Int32))
set_option maxRecDepth 100000 in
set_option maxHeartbeats 4000000 in
theorem mX11_spread (l : Launch) (g : xG) {k0 : Nat} {a1 : Int32} {r : Int32} {M' : xM} (h0 : x_is 1 k0 11) {M : xM} (hf : fX11_spread M k0 a1 = some (r, M')) : x_cI l g 1 yX11_spread cX11_spread 6 .int 4 104 [.ref (g.2.2.1 k0), .int a1] M (fun v N => v = r ∧ N = M') := by
  refine x_stI RX11 (by decide) rfl (Nat.le_of_ble_eq_true rfl) ?_
  intro p e s m args below meth c Q ls C hw ret hl
  obtain ⟨hx, hb, hml, hown, hB, -⟩ := id C
  have hl : lv_has ls 6 [(0, .ref (g.2.2.1 k0)), (1, .int a1)] := hl
  unfold fX11_spread at hf
  refine lv_iload_n hx hb dX11_spread_0 rfl (lv_at hl 1 rfl) ?_
  refine lv_iconst (v := (0 : Int32)) hx hb dX11_spread_1 (by decide) ?_
  refine lv_iconst (v := (1 : Int32)) hx hb dX11_spread_2 (by decide) ?_
  obtain ⟨tv_3, tM_1, c_2, hf⟩ := x_bE hf
  refine x_sI C hw hl.1 [.int a1, .int (0 : Int32), .int (1 : Int32)] [] (mX11_in l g c_2) lk_X11_56 (by decide) rfl (Nat.le_of_ble_eq_true rfl) ⟨Nat.zero_le _, Nat.zero_le _⟩ dX11_spread_3 (fun v_3 M_1 H locs hN hw => ?_)
  obtain ⟨rfl, rfl⟩ := hN
  refine lv_if_ne (tgt := 12) hx hb dX11_spread_6 (by decide) (fun q_4 => ?_) (fun q_4 => ?_)
  · have hf := x_iN hf q_4
    refine lv_iconst (v := (-1 : Int32)) hx hb dX11_spread_12 (by decide) ?_
    refine lv_istore_n (lv' := [(2, .int (-1 : Int32)), (0, .ref (g.2.2.1 k0)), (1, .int a1)]) hx hb dX11_spread_13 rfl hl (by decide) rfl (fun ls hl => ?_)
    refine lv_iconst (v := (0 : Int32)) hx hb dX11_spread_14 (by decide) ?_
    refine lv_istore_n (lv' := [(3, .int (0 : Int32)), (2, .int (-1 : Int32)), (0, .ref (g.2.2.1 k0)), (1, .int a1)]) hx hb dX11_spread_15 rfl hl (by decide) rfl (fun ls hl => ?_)
    refine lv_iconst (v := (0 : Int32)) hx hb dX11_spread_16 (by decide) ?_
    refine lv_istore (lv' := [(4, .int (0 : Int32)), (3, .int (0 : Int32)), (2, .int (-1 : Int32)), (0, .ref (g.2.2.1 k0)), (1, .int a1)]) hx hb dX11_spread_17 hl (by decide) rfl (fun ls hl => ?_)
    obtain ⟨k95_7, ek95_7, hf⟩ := x_jE hf
    have hk95_7 : ∀ (H : Heap) (locs : List Loc) (M_8 : xM) (x2_5 : Int32) (x3_6 : Int32) (ls : Array Slot) , lv_has ls 6 [(2, .int x2_5), (3, .int x3_6)] → x_w g 1 s H locs M_8 → k95_7 M_8 x2_5 x3_6 = some (r, M') → W p l e (x_rm 4 104) s m args below meth c H locs 0 0 Q (F0 m 95 ls []) := by
      intro H locs M_8 x2_5 x3_6 ls  hl hw hf
      rw [ek95_7] at hf
      refine lv_iload_n hx hb dX11_spread_95 rfl (lv_at hl 0 rfl) ?_
      refine lv_iconst (v := (-1 : Int32)) hx hb dX11_spread_96 (by decide) ?_
      refine lv_icmp_ne (tgt := 104) hx hb dX11_spread_97 (by decide) (fun q_9 => ?_) (fun q_9 => ?_)
      · have hf := x_iN hf q_9
        refine lv_iload_n hx hb dX11_spread_104 rfl (lv_at hl 1 rfl) ?_
        refine lv_iload_n hx hb dX11_spread_105 rfl (lv_at hl 0 rfl) ?_
        refine lv_isub hx hb dX11_spread_106 ?_
        exact ret hf dX11_spread_107 hw
      · have hf := x_iP hf q_9
        refine lv_iconst (v := (0 : Int32)) hx hb dX11_spread_100 (by decide) ?_
        refine lv_goto (tgt := 107) hx hb dX11_spread_101 (by decide) ?_
        exact ret hf dX11_spread_107 hw
    have hL_44 : ∀ (n_14 : Nat) (H : Heap) (locs : List Loc) (M_13 : xM) (x2_10 : Int32) (x3_11 : Int32) (x4_12 : Int32) (ls : Array Slot) , lv_has ls 6 [(0, .ref (g.2.2.1 k0)), (1, .int a1), (2, .int x2_10), (3, .int x3_11), (4, .int x4_12)] → x_w g 1 s H locs M_13 → fX11_spread_L19 k0 a1 k95_7 n_14 M_13 x2_10 x3_11 x4_12 = some (r, M') → W p l e (x_rm 4 104) s m args below meth c H locs 0 0 Q (F0 m 19 ls []) := by
      intro n_14
      induction n_14 with
      | zero =>
        intro H locs M_13 x2_10 x3_11 x4_12 ls  hl hw hf
        rw [fX11_spread_L19] at hf
        cases hf
      | succ n_14 ih_15 =>
        intro H locs M_13 x2_10 x3_11 x4_12 ls  hl hw hf
        rw [fX11_spread_L19] at hf
        refine lv_iload hx hb dX11_spread_19 (lv_at hl 4 rfl) ?_
        refine lv_aload_n hx hb dX11_spread_21 rfl (lv_at hl 0 rfl) ?_
        refine fg_X11_7 C hw h0 dX11_spread_22 ?_
        have h_16 : x_is 1 (xr 1 k0 0) 12 := x_tm h0 (by decide) rfl
        refine lv_bipush (v := (20 : Int32)) hx hb dX11_spread_25 (by decide) ?_
        obtain ⟨q_17, hf⟩ := x_gE hf
        refine x_ald C hw h_16 q_17 dX11_spread_27 ?_
        refine lv_icmp_ge (tgt := 95) hx hb dX11_spread_28 (by decide) (fun q_18 => ?_) (fun q_18 => ?_)
        · have hf := x_iP hf q_18
          exact hk95_7 _ _ _ _ _ _ (lv_sub hl [2, 3] rfl) hw hf
        · have hf := x_iN hf q_18
          refine lv_aload_n hx hb dX11_spread_31 rfl (lv_at hl 0 rfl) ?_
          refine lv_iload hx hb dX11_spread_32 (lv_at hl 4 rfl) ?_
          refine lv_iload_n hx hb dX11_spread_34 rfl (lv_at hl 1 rfl) ?_
          obtain ⟨k53_20, ek53_20, hf⟩ := x_jE hf
          have hk53_20 : ∀ (H : Heap) (locs : List Loc) (M_21 : xM) (z_19 : Int32) (ls : Array Slot) , lv_has ls 6 [(0, .ref (g.2.2.1 k0)), (1, .int a1), (2, .int x2_10), (3, .int x3_11), (4, .int x4_12)] → x_w g 1 s H locs M_21 → k53_20 M_21 z_19 = some (r, M') → W p l e (x_rm 4 104) s m args below meth c H locs 0 0 Q (F0 m 53 ls [.int z_19, .int x4_12, .ref (g.2.2.1 k0)]) := by
            intro H locs M_21 z_19 ls  hl hw hf
            rw [ek53_20] at hf
            obtain ⟨tv_24, tM_22, c_23, hf⟩ := x_bE hf
            refine x_vI C hw hl.1 [.int x4_12, .int z_19] [] (mX11_share l g h0 c_23) lk_X11_227 h0 (by decide) rfl (by decide) rfl (Nat.le_of_ble_eq_true rfl) ⟨Nat.zero_le _, Nat.zero_le _⟩ dX11_spread_53 (fun v_24 M_22 H locs hN hw => ?_)
            obtain ⟨rfl, rfl⟩ := hN
            refine lv_istore (lv' := [(5, .int v_24), (0, .ref (g.2.2.1 k0)), (1, .int a1), (2, .int x2_10), (3, .int x3_11), (4, .int x4_12)]) hx hb dX11_spread_56 hl (by decide) rfl (fun ls hl => ?_)
            refine lv_iload_n hx hb dX11_spread_58 rfl (lv_at hl 3 rfl) ?_
            refine lv_iconst (v := (-1 : Int32)) hx hb dX11_spread_59 (by decide) ?_
            obtain ⟨k75_26, ek75_26, hf⟩ := x_jE hf
            have hk75_26 : ∀ (H : Heap) (locs : List Loc) (M_27 : xM) (z_25 : Int32) (ls : Array Slot) , lv_has ls 6 [(5, .int v_24), (0, .ref (g.2.2.1 k0)), (1, .int a1), (3, .int x3_11), (4, .int x4_12)] → x_w g 1 s H locs M_27 → k75_26 M_27 z_25 = some (r, M') → W p l e (x_rm 4 104) s m args below meth c H locs 0 0 Q (F0 m 75 ls [.int z_25]) := by
              intro H locs M_27 z_25 ls  hl hw hf
              rw [ek75_26] at hf
              refine lv_istore_n (lv' := [(2, .int z_25), (5, .int v_24), (0, .ref (g.2.2.1 k0)), (1, .int a1), (3, .int x3_11), (4, .int x4_12)]) hx hb dX11_spread_75 rfl hl (by decide) rfl (fun ls hl => ?_)
              refine lv_iload hx hb dX11_spread_76 (lv_at hl 1 rfl) ?_
              refine lv_iload_n hx hb dX11_spread_78 rfl (lv_at hl 4 rfl) ?_
              obtain ⟨k88_29, ek88_29, hf⟩ := x_jE hf
              have hk88_29 : ∀ (H : Heap) (locs : List Loc) (M_30 : xM) (z_28 : Int32) (ls : Array Slot) , lv_has ls 6 [(2, .int z_25), (0, .ref (g.2.2.1 k0)), (1, .int a1), (4, .int x4_12)] → x_w g 1 s H locs M_30 → k88_29 M_30 z_28 = some (r, M') → W p l e (x_rm 4 104) s m args below meth c H locs 0 0 Q (F0 m 88 ls [.int z_28]) := by
                intro H locs M_30 z_28 ls  hl hw hf
                rw [ek88_29] at hf
                refine lv_istore_n (lv' := [(3, .int z_28), (2, .int z_25), (0, .ref (g.2.2.1 k0)), (1, .int a1), (4, .int x4_12)]) hx hb dX11_spread_88 rfl hl (by decide) rfl (fun ls hl => ?_)
                obtain ⟨x4_31, ex4_31⟩ : ∃ z : Int32, z = (x4_12 + (1 : Int32)) := ⟨_, rfl⟩
                have hf := x_lE ex4_31 hf
                refine lv_iinc (v := x4_31) (lv' := [(4, .int x4_31), (3, .int z_28), (2, .int z_25), (0, .ref (g.2.2.1 k0)), (1, .int a1)]) hx hb dX11_spread_89 hl (k := 4) rfl (by rw [ex4_31]; rfl) (by decide) rfl (fun ls hl => ?_)
                refine lv_goto (tgt := 19) hx hb dX11_spread_92 (by decide) ?_
                exact ih_15 _ _ _ _ _ _ _ (lv_sub hl [3, 4, 2, 1, 0] rfl) hw hf
              refine lv_icmp_le (tgt := 87) hx hb dX11_spread_79 (by decide) (fun q_32 => ?_) (fun q_32 => ?_)
              · have hf := x_iP hf q_32
                refine lv_iload_n hx hb dX11_spread_87 rfl (lv_at hl 4 rfl) ?_
                exact hk88_29 _ _ _ _ _ (lv_sub hl [0, 2, 3, 5] rfl) hw hf
              · have hf := x_iN hf q_32
                refine lv_iload hx hb dX11_spread_82 (lv_at hl 1 rfl) ?_
                refine lv_goto (tgt := 88) hx hb dX11_spread_84 (by decide) ?_
                exact hk88_29 _ _ _ _ _ (lv_sub hl [0, 2, 3, 5] rfl) hw hf
            obtain ⟨k69_33, ek69_33, hf⟩ := x_jE hf
            have hk69_33 : ∀ (H : Heap) (locs : List Loc) (M_34 : xM)  (ls : Array Slot) , lv_has ls 6 [(5, .int v_24), (0, .ref (g.2.2.1 k0)), (1, .int a1), (3, .int x3_11), (4, .int x4_12)] → x_w g 1 s H locs M_34 → k69_33 M_34 = some (r, M') → W p l e (x_rm 4 104) s m args below meth c H locs 0 0 Q (F0 m 69 ls []) := by
              intro H locs M_34  ls  hl hw hf
              rw [ek69_33] at hf
              refine lv_iload hx hb dX11_spread_69 (lv_at hl 0 rfl) ?_
              refine lv_goto (tgt := 75) hx hb dX11_spread_71 (by decide) ?_
              exact hk75_26 _ _ _ _ _ (lv_sub hl [0, 1, 2, 3, 4] rfl) hw hf
            refine lv_icmp_eq (tgt := 69) hx hb dX11_spread_60 (by decide) (fun q_35 => ?_) (fun q_35 => ?_)
            · have hf := x_iP hf q_35
              exact hk69_33 _ _ _ _ (lv_sub hl [0, 1, 2, 4, 5] rfl) hw hf
            · have hf := x_iN hf q_35
              refine lv_iload hx hb dX11_spread_63 (lv_at hl 0 rfl) ?_
              refine lv_iload_n hx hb dX11_spread_65 rfl (lv_at hl 3 rfl) ?_
              refine lv_icmp_ge (tgt := 74) hx hb dX11_spread_66 (by decide) (fun q_36 => ?_) (fun q_36 => ?_)
              · have hf := x_iP hf q_36
                refine lv_iload_n hx hb dX11_spread_74 rfl (lv_at hl 3 rfl) ?_
                exact hk75_26 _ _ _ _ _ (lv_sub hl [0, 1, 2, 4, 5] rfl) hw hf
              · have hf := x_iN hf q_36
                exact hk69_33 _ _ _ _ (lv_sub hl [0, 1, 2, 4, 5] rfl) hw hf
          refine lv_if_ne (tgt := 47) hx hb dX11_spread_35 (by decide) (fun q_37 => ?_) (fun q_37 => ?_)
          · have hf := x_iN hf q_37
            refine lv_aload_n hx hb dX11_spread_47 rfl (lv_at hl 0 rfl) ?_
            refine lv_iload hx hb dX11_spread_48 (lv_at hl 4 rfl) ?_
            obtain ⟨tv_40, tM_38, c_39, hf⟩ := x_bE hf
            refine x_vI C hw hl.1 [.int x4_12] [.int x4_12, .ref (g.2.2.1 k0)] (mX11_flatOf l g h0 c_39) lk_X11_230 h0 (by decide) rfl (by decide) rfl (Nat.le_of_ble_eq_true rfl) ⟨Nat.zero_le _, Nat.zero_le _⟩ dX11_spread_50 (fun v_40 M_38 H locs hN hw => ?_)
            obtain ⟨rfl, rfl⟩ := hN
            exact hk53_20 _ _ _ _ _ (lv_sub hl [0, 1, 2, 3, 4] rfl) hw hf
          · have hf := x_iP hf q_37
            refine lv_aload_n hx hb dX11_spread_38 rfl (lv_at hl 0 rfl) ?_
            refine lv_iload hx hb dX11_spread_39 (lv_at hl 4 rfl) ?_
            obtain ⟨tv_43, tM_41, c_42, hf⟩ := x_bE hf
            refine x_vI C hw hl.1 [.int x4_12] [.int x4_12, .ref (g.2.2.1 k0)] (mX11_fine l g h0 c_42) lk_X11_207 h0 (by decide) rfl (by decide) rfl (Nat.le_of_ble_eq_true rfl) ⟨Nat.zero_le _, Nat.zero_le _⟩ dX11_spread_41 (fun v_43 M_41 H locs hN hw => ?_)
            obtain ⟨rfl, rfl⟩ := hN
            refine lv_goto (tgt := 53) hx hb dX11_spread_44 (by decide) ?_
            exact hk53_20 _ _ _ _ _ (lv_sub hl [0, 1, 2, 3, 4] rfl) hw hf
    exact hL_44 _ _ _ _ _ _ _ _ (lv_sub hl [3, 4, 2, 1, 0] rfl) hw hf
  · have hf := x_iP hf q_4
    refine lv_ldc hx hb hown (hB _ mk_X11_60) dX11_spread_9 ?_
    exact ret hf dX11_spread_11 hw
def fX11_slip_L39 (k0 : Nat) (a2 : Int32) (k113_13 : xM → Int64 → Option (Int32 × xM)) (k76_33 : xM → Int32 → Option (Int32 × xM)) : Nat → xM → Int64 → Int32 → Option (Int32 × xM)
  | 0, _, _, _ => none
  | n_38 + 1, M_37, x3_35, x5_36 => x_g a2 (xn 1 (xr 1 k0 29)) (if (M_37 (xr 1 k0 29) a2.toNatClampNeg) ≤ x5_36 then (k113_13 M_37 x3_35) else (x_g (((24 : Int32) * a2) + x5_36) (xn 1 (xr 1 k0 28)) (x_l (M_37 (xr 1 k0 28) (((24 : Int32) * a2) + x5_36).toNatClampNeg) fun x6_44 => x_d (2 : Int32) (x_l (fun (M_47 : xM) => x_d (2 : Int32) (x_l (fun (M_51 : xM) (z_49 : Int64) => x_l (x3_35 + z_49) fun x3_52 => x_l (x5_36 + (1 : Int32)) fun x5_53 => fX11_slip_L39 k0 a2 k113_13 k76_33 n_38 M_51 x3_52 x5_53) fun k105_50 => if (x5_36 - x5_36 / (2 : Int32) * (2 : Int32)) = 0 then (k105_50 M_47 (x6_44.toInt64)) else (k105_50 M_47 (0 : Int64)))) fun k90_46 => if (x5_36 - x5_36 / (2 : Int32) * (2 : Int32)) = 0 then (if 0 ≤ x6_44 then (k90_46 M_37) else (k76_33 M_37 x5_36)) else (if (lg_cmp (x6_44.toInt64) x3_35) = 0 then (k90_46 M_37) else (some (x5_36, M_37)))))))
def fX11_slip (M : xM) (k0 : Nat) (a1 : Int32) (a2 : Int32) : Option (Int32 × xM) := x_b (fX11_isPerson M k0 a1) fun v_3 M_1 => if v_3 = 0 then (some ((-1000000001 : Int32), M_1)) else (x_b (fX11_in M_1 a2 (0 : Int32) (1 : Int32)) fun v_7 M_5 => if v_7 = 0 then (some ((-1000000001 : Int32), M_5)) else (x_g a2 (xn 1 (xr 1 k0 29)) (if (M_5 (xr 1 k0 29) a2.toNatClampNeg) = (-1 : Int32) then (some ((-1000000011 : Int32), M_5)) else (x_l (fun (M_14 : xM) (x3_12 : Int64) => x_g (0 : Int32) (xn 1 (xr 1 k0 0)) (x_g (0 : Int32) (xn 1 (xr 1 k0 0)) (x_b (fX11_whatOf M_14 k0 a1 (0 : Int32) (M_14 (xr 1 k0 0) (0 : Int32).toNatClampNeg) (M_14 (xr 1 k0 0) (0 : Int32).toNatClampNeg)) fun v_20 M_18 => x_l (x3_12 - ((12 : Int64) * (v_20.toInt64))) fun x5_21 => x_g a2 (xn 1 (xr 1 k0 29)) (x_l (fun (M_24 : xM) => some ((-1000000005 : Int32), M_24)) fun k185_23 => if (M_18 (xr 1 k0 29) a2.toNatClampNeg) = (24 : Int32) then (x_g (16 : Int32) (xn 1 (xr 1 k0 0)) (x_l (fun (M_28 : xM) => some ((23 : Int32), M_28)) fun k180_27 => if 0 < (lg_cmp x5_21 ((M_18 (xr 1 k0 0) (16 : Int32).toNatClampNeg).toInt64)) then (k180_27 M_18) else (x_g (16 : Int32) (xn 1 (xr 1 k0 0)) (if 0 ≤ (lg_cmp x5_21 ((-(M_18 (xr 1 k0 0) (16 : Int32).toNatClampNeg)).toInt64)) then (k185_23 M_18) else (k180_27 M_18))))) else (k185_23 M_18))))) fun k113_13 => x_l (fun (M_34 : xM) (x5_32 : Int32) => some (x5_32, M_34)) fun k76_33 => fX11_slip_L39 k0 a2 k113_13 k76_33 x_FU M_5 (0 : Int64) (0 : Int32)))))
set_option maxRecDepth 100000 in
set_option maxHeartbeats 4000000 in
theorem mX11_slip (l : Launch) (g : xG) {k0 : Nat} {a1 : Int32} {a2 : Int32} {r : Int32} {M' : xM} (h0 : x_is 1 k0 11) {M : xM} (hf : fX11_slip M k0 a1 a2 = some (r, M')) : x_cI l g 1 yX11_slip cX11_slip 7 .int 2 43 [.ref (g.2.2.1 k0), .int a1, .int a2] M (fun v N => v = r ∧ N = M') := by
  refine x_stI RX11 (by decide) rfl (Nat.le_of_ble_eq_true rfl) ?_
  intro p e s m args below meth c Q ls C hw ret hl
  obtain ⟨hx, hb, hml, hown, hB, -⟩ := id C
  have hl : lv_has ls 7 [(0, .ref (g.2.2.1 k0)), (1, .int a1), (2, .int a2)] := hl
  unfold fX11_slip at hf
  refine lv_aload_n hx hb dX11_slip_0 rfl (lv_at hl 0 rfl) ?_
  refine lv_iload_n hx hb dX11_slip_1 rfl (lv_at hl 1 rfl) ?_
  obtain ⟨tv_3, tM_1, c_2, hf⟩ := x_bE hf
  refine x_vI C hw hl.1 [.int a1] [] (mX11_isPerson l g h0 c_2) lk_X11_62 h0 (by decide) rfl (by decide) rfl (Nat.le_of_ble_eq_true rfl) ⟨Nat.zero_le _, Nat.zero_le _⟩ dX11_slip_2 (fun v_3 M_1 H locs hN hw => ?_)
  obtain ⟨rfl, rfl⟩ := hN
  refine lv_if_eq (tgt := 17) hx hb dX11_slip_5 (by decide) (fun q_4 => ?_) (fun q_4 => ?_)
  · have hf := x_iP hf q_4
    refine lv_ldc hx hb hown (hB _ mk_X11_60) dX11_slip_17 ?_
    exact ret hf dX11_slip_19 hw
  · have hf := x_iN hf q_4
    refine lv_iload_n hx hb dX11_slip_8 rfl (lv_at hl 2 rfl) ?_
    refine lv_iconst (v := (0 : Int32)) hx hb dX11_slip_9 (by decide) ?_
    refine lv_iconst (v := (1 : Int32)) hx hb dX11_slip_10 (by decide) ?_
    obtain ⟨tv_7, tM_5, c_6, hf⟩ := x_bE hf
    refine x_sI C hw hl.1 [.int a2, .int (0 : Int32), .int (1 : Int32)] [] (mX11_in l g c_6) lk_X11_56 (by decide) rfl (Nat.le_of_ble_eq_true rfl) ⟨Nat.zero_le _, Nat.zero_le _⟩ dX11_slip_11 (fun v_7 M_5 H locs hN hw => ?_)
    obtain ⟨rfl, rfl⟩ := hN
    refine lv_if_ne (tgt := 20) hx hb dX11_slip_14 (by decide) (fun q_8 => ?_) (fun q_8 => ?_)
    · have hf := x_iN hf q_8
      refine lv_aload_n hx hb dX11_slip_20 rfl (lv_at hl 0 rfl) ?_
      refine fg_X11_49 C hw h0 dX11_slip_21 ?_
      have h_9 : x_is 1 (xr 1 k0 29) 12 := x_tm h0 (by decide) rfl
      refine lv_iload_n hx hb dX11_slip_24 rfl (lv_at hl 2 rfl) ?_
      obtain ⟨q_10, hf⟩ := x_gE hf
      refine x_ald C hw h_9 q_10 dX11_slip_25 ?_
      refine lv_iconst (v := (-1 : Int32)) hx hb dX11_slip_26 (by decide) ?_
      refine lv_icmp_ne (tgt := 34) hx hb dX11_slip_27 (by decide) (fun q_11 => ?_) (fun q_11 => ?_)
      · have hf := x_iN hf q_11
        refine lv_lconst (v := 0) hx hb dX11_slip_34 (by decide) ?_
        refine lv_lstore_n (lv' := [(3, .long (0 : Int64)), (0, .ref (g.2.2.1 k0)), (1, .int a1), (2, .int a2)]) hx hb dX11_slip_35 rfl hl (by decide) rfl (fun ls hl => ?_)
        refine lv_iconst (v := (0 : Int32)) hx hb dX11_slip_36 (by decide) ?_
        refine lv_istore (lv' := [(5, .int (0 : Int32)), (3, .long (0 : Int64)), (0, .ref (g.2.2.1 k0)), (1, .int a1), (2, .int a2)]) hx hb dX11_slip_37 hl (by decide) rfl (fun ls hl => ?_)
        obtain ⟨k113_13, ek113_13, hf⟩ := x_jE hf
        have hk113_13 : ∀ (H : Heap) (locs : List Loc) (M_14 : xM) (x3_12 : Int64) (ls : Array Slot) , lv_has ls 7 [(0, .ref (g.2.2.1 k0)), (1, .int a1), (2, .int a2), (3, .long x3_12)] → x_w g 1 s H locs M_14 → k113_13 M_14 x3_12 = some (r, M') → W p l e (x_rm 2 43) s m args below meth c H locs 0 0 Q (F0 m 113 ls []) := by
          intro H locs M_14 x3_12 ls  hl hw hf
          rw [ek113_13] at hf
          refine lv_lload_n hx hb dX11_slip_113 rfl (lv_at hl 3 rfl) ?_
          refine lv_ldc2 hx hb hown (hB _ mkl_X11_273) dX11_slip_114 ?_
          refine lv_aload_n hx hb dX11_slip_117 rfl (lv_at hl 0 rfl) ?_
          refine lv_iload_n hx hb dX11_slip_118 rfl (lv_at hl 1 rfl) ?_
          refine lv_iconst (v := (0 : Int32)) hx hb dX11_slip_119 (by decide) ?_
          refine lv_aload_n hx hb dX11_slip_120 rfl (lv_at hl 0 rfl) ?_
          refine fg_X11_7 C hw h0 dX11_slip_121 ?_
          have h_15 : x_is 1 (xr 1 k0 0) 12 := x_tm h0 (by decide) rfl
          refine lv_iconst (v := (0 : Int32)) hx hb dX11_slip_124 (by decide) ?_
          obtain ⟨q_16, hf⟩ := x_gE hf
          refine x_ald C hw h_15 q_16 dX11_slip_125 ?_
          refine lv_aload_n hx hb dX11_slip_126 rfl (lv_at hl 0 rfl) ?_
          refine fg_X11_7 C hw h0 dX11_slip_127 ?_
          refine lv_iconst (v := (0 : Int32)) hx hb dX11_slip_130 (by decide) ?_
          obtain ⟨q_17, hf⟩ := x_gE hf
          refine x_ald C hw h_15 q_17 dX11_slip_131 ?_
          obtain ⟨tv_20, tM_18, c_19, hf⟩ := x_bE hf
          refine x_vI C hw hl.1 [.int a1, .int (0 : Int32), .int (M_14 (xr 1 k0 0) (0 : Int32).toNatClampNeg), .int (M_14 (xr 1 k0 0) (0 : Int32).toNatClampNeg)] [.long (12 : Int64), .long x3_12] (mX11_whatOf l g h0 c_19) lk_X11_71 h0 (by decide) rfl (by decide) rfl (Nat.le_of_ble_eq_true rfl) ⟨Nat.zero_le _, Nat.zero_le _⟩ dX11_slip_132 (fun v_20 M_18 H locs hN hw => ?_)
          obtain ⟨rfl, rfl⟩ := hN
          refine lv_i2l hx hb dX11_slip_135 rfl ?_
          refine lv_lmul hx hb dX11_slip_136 ?_
          refine lv_lsub hx hb dX11_slip_137 ?_
          refine lv_topl (fun x5_21 ex5_21 => ?_)
          have hf := x_lE ex5_21 hf
          refine lv_lstore (lv' := [(5, .long x5_21), (0, .ref (g.2.2.1 k0)), (1, .int a1), (2, .int a2), (3, .long x3_12)]) hx hb dX11_slip_138 hl (by decide) rfl (fun ls hl => ?_)
          refine lv_aload_n hx hb dX11_slip_140 rfl (lv_at hl 1 rfl) ?_
          refine fg_X11_49 C hw h0 dX11_slip_141 ?_
          refine lv_iload_n hx hb dX11_slip_144 rfl (lv_at hl 3 rfl) ?_
          obtain ⟨q_22, hf⟩ := x_gE hf
          refine x_ald C hw h_9 q_22 dX11_slip_145 ?_
          refine lv_bipush (v := (24 : Int32)) hx hb dX11_slip_146 (by decide) ?_
          obtain ⟨k185_23, ek185_23, hf⟩ := x_jE hf
          have hk185_23 : ∀ (H : Heap) (locs : List Loc) (M_24 : xM)  (ls : Array Slot) , lv_has ls 7 [] → x_w g 1 s H locs M_24 → k185_23 M_24 = some (r, M') → W p l e (x_rm 2 43) s m args below meth c H locs 0 0 Q (F0 m 185 ls []) := by
            intro H locs M_24  ls  hl hw hf
            rw [ek185_23] at hf
            refine lv_ldc hx hb hown (hB _ mk_X11_55) dX11_slip_185 ?_
            exact ret hf dX11_slip_187 hw
          refine lv_icmp_ne (tgt := 185) hx hb dX11_slip_148 (by decide) (fun q_25 => ?_) (fun q_25 => ?_)
          · have hf := x_iN hf q_25
            exact hk185_23 _ _ _ _ (lv_sub hl [] rfl) hw hf
          · have hf := x_iP hf q_25
            refine lv_lload hx hb dX11_slip_151 (lv_at hl 0 rfl) ?_
            refine lv_aload_n hx hb dX11_slip_153 rfl (lv_at hl 1 rfl) ?_
            refine fg_X11_7 C hw h0 dX11_slip_154 ?_
            refine lv_bipush (v := (16 : Int32)) hx hb dX11_slip_157 (by decide) ?_
            obtain ⟨q_26, hf⟩ := x_gE hf
            refine x_ald C hw h_15 q_26 dX11_slip_159 ?_
            refine lv_i2l hx hb dX11_slip_160 rfl ?_
            refine W.lcmp hx hb dX11_slip_161 ?_
            obtain ⟨k180_27, ek180_27, hf⟩ := x_jE hf
            have hk180_27 : ∀ (H : Heap) (locs : List Loc) (M_28 : xM)  (ls : Array Slot) , lv_has ls 7 [] → x_w g 1 s H locs M_28 → k180_27 M_28 = some (r, M') → W p l e (x_rm 2 43) s m args below meth c H locs 0 0 Q (F0 m 180 ls []) := by
              intro H locs M_28  ls  hl hw hf
              rw [ek180_27] at hf
              refine lv_bipush (v := (23 : Int32)) hx hb dX11_slip_180 (by decide) ?_
              refine lv_goto (tgt := 187) hx hb dX11_slip_182 (by decide) ?_
              exact ret hf dX11_slip_187 hw
            refine lv_if_gt (tgt := 180) hx hb dX11_slip_162 (by decide) (fun q_29 => ?_) (fun q_29 => ?_)
            · have hf := x_iP hf q_29
              exact hk180_27 _ _ _ _ (lv_sub hl [] rfl) hw hf
            · have hf := x_iN hf q_29
              refine lv_lload hx hb dX11_slip_165 (lv_at hl 0 rfl) ?_
              refine lv_aload_n hx hb dX11_slip_167 rfl (lv_at hl 1 rfl) ?_
              refine fg_X11_7 C hw h0 dX11_slip_168 ?_
              refine lv_bipush (v := (16 : Int32)) hx hb dX11_slip_171 (by decide) ?_
              obtain ⟨q_30, hf⟩ := x_gE hf
              refine x_ald C hw h_15 q_30 dX11_slip_173 ?_
              refine lv_ineg hx hb dX11_slip_174 ?_
              refine lv_i2l hx hb dX11_slip_175 rfl ?_
              refine W.lcmp hx hb dX11_slip_176 ?_
              refine lv_if_ge (tgt := 185) hx hb dX11_slip_177 (by decide) (fun q_31 => ?_) (fun q_31 => ?_)
              · have hf := x_iP hf q_31
                exact hk185_23 _ _ _ _ (lv_sub hl [] rfl) hw hf
              · have hf := x_iN hf q_31
                exact hk180_27 _ _ _ _ (lv_sub hl [] rfl) hw hf
        obtain ⟨k76_33, ek76_33, hf⟩ := x_jE hf
        have hk76_33 : ∀ (H : Heap) (locs : List Loc) (M_34 : xM) (x5_32 : Int32) (ls : Array Slot) , lv_has ls 7 [(5, .int x5_32)] → x_w g 1 s H locs M_34 → k76_33 M_34 x5_32 = some (r, M') → W p l e (x_rm 2 43) s m args below meth c H locs 0 0 Q (F0 m 76 ls []) := by
          intro H locs M_34 x5_32 ls  hl hw hf
          rw [ek76_33] at hf
          refine lv_goto (tgt := 87) hx hb dX11_slip_76 (by decide) ?_
          refine lv_iload hx hb dX11_slip_87 (lv_at hl 0 rfl) ?_
          exact ret hf dX11_slip_89 hw
        have hL_58 : ∀ (n_38 : Nat) (H : Heap) (locs : List Loc) (M_37 : xM) (x3_35 : Int64) (x5_36 : Int32) (ls : Array Slot) , lv_has ls 7 [(0, .ref (g.2.2.1 k0)), (1, .int a1), (2, .int a2), (3, .long x3_35), (5, .int x5_36)] → x_w g 1 s H locs M_37 → fX11_slip_L39 k0 a2 k113_13 k76_33 n_38 M_37 x3_35 x5_36 = some (r, M') → W p l e (x_rm 2 43) s m args below meth c H locs 0 0 Q (F0 m 39 ls []) := by
          intro n_38
          induction n_38 with
          | zero =>
            intro H locs M_37 x3_35 x5_36 ls  hl hw hf
            rw [fX11_slip_L39] at hf
            cases hf
          | succ n_38 ih_39 =>
            intro H locs M_37 x3_35 x5_36 ls  hl hw hf
            rw [fX11_slip_L39] at hf
            refine lv_iload hx hb dX11_slip_39 (lv_at hl 4 rfl) ?_
            refine lv_aload_n hx hb dX11_slip_41 rfl (lv_at hl 0 rfl) ?_
            refine fg_X11_49 C hw h0 dX11_slip_42 ?_
            refine lv_iload_n hx hb dX11_slip_45 rfl (lv_at hl 2 rfl) ?_
            obtain ⟨q_40, hf⟩ := x_gE hf
            refine x_ald C hw h_9 q_40 dX11_slip_46 ?_
            refine lv_icmp_ge (tgt := 113) hx hb dX11_slip_47 (by decide) (fun q_41 => ?_) (fun q_41 => ?_)
            · have hf := x_iP hf q_41
              exact hk113_13 _ _ _ _ _ (lv_sub hl [0, 1, 2, 3] rfl) hw hf
            · have hf := x_iN hf q_41
              refine lv_aload_n hx hb dX11_slip_50 rfl (lv_at hl 0 rfl) ?_
              refine fg_X11_46 C hw h0 dX11_slip_51 ?_
              have h_42 : x_is 1 (xr 1 k0 28) 12 := x_tm h0 (by decide) rfl
              refine lv_bipush (v := (24 : Int32)) hx hb dX11_slip_54 (by decide) ?_
              refine lv_iload_n hx hb dX11_slip_56 rfl (lv_at hl 2 rfl) ?_
              refine lv_imul hx hb dX11_slip_57 ?_
              refine lv_iload hx hb dX11_slip_58 (lv_at hl 4 rfl) ?_
              refine lv_iadd hx hb dX11_slip_60 ?_
              obtain ⟨q_43, hf⟩ := x_gE hf
              refine x_ald C hw h_42 q_43 dX11_slip_61 ?_
              refine lv_topi (fun x6_44 ex6_44 => ?_)
              have hf := x_lE ex6_44 hf
              refine lv_istore (lv' := [(6, .int x6_44), (0, .ref (g.2.2.1 k0)), (1, .int a1), (2, .int a2), (3, .long x3_35), (5, .int x5_36)]) hx hb dX11_slip_62 hl (by decide) rfl (fun ls hl => ?_)
              refine lv_iload hx hb dX11_slip_64 (lv_at hl 5 rfl) ?_
              refine lv_iconst (v := (2 : Int32)) hx hb dX11_slip_66 (by decide) ?_
              obtain ⟨q_45, hf⟩ := x_dE hf
              refine lv_irem hx hb dX11_slip_67 q_45 ?_
              obtain ⟨k90_46, ek90_46, hf⟩ := x_jE hf
              have hk90_46 : ∀ (H : Heap) (locs : List Loc) (M_47 : xM)  (ls : Array Slot) , lv_has ls 7 [(6, .int x6_44), (0, .ref (g.2.2.1 k0)), (1, .int a1), (2, .int a2), (3, .long x3_35), (5, .int x5_36)] → x_w g 1 s H locs M_47 → k90_46 M_47 = some (r, M') → W p l e (x_rm 2 43) s m args below meth c H locs 0 0 Q (F0 m 90 ls []) := by
                intro H locs M_47  ls  hl hw hf
                rw [ek90_46] at hf
                refine lv_lload_n hx hb dX11_slip_90 rfl (lv_at hl 4 rfl) ?_
                refine lv_iload hx hb dX11_slip_91 (lv_at hl 5 rfl) ?_
                refine lv_iconst (v := (2 : Int32)) hx hb dX11_slip_93 (by decide) ?_
                obtain ⟨q_48, hf⟩ := x_dE hf
                refine lv_irem hx hb dX11_slip_94 q_48 ?_
                obtain ⟨k105_50, ek105_50, hf⟩ := x_jE hf
                have hk105_50 : ∀ (H : Heap) (locs : List Loc) (M_51 : xM) (z_49 : Int64) (ls : Array Slot) , lv_has ls 7 [(0, .ref (g.2.2.1 k0)), (1, .int a1), (2, .int a2), (5, .int x5_36)] → x_w g 1 s H locs M_51 → k105_50 M_51 z_49 = some (r, M') → W p l e (x_rm 2 43) s m args below meth c H locs 0 0 Q (F0 m 105 ls [.long z_49, .long x3_35]) := by
                  intro H locs M_51 z_49 ls  hl hw hf
                  rw [ek105_50] at hf
                  refine lv_ladd hx hb dX11_slip_105 ?_
                  refine lv_topl (fun x3_52 ex3_52 => ?_)
                  have hf := x_lE ex3_52 hf
                  refine lv_lstore_n (lv' := [(3, .long x3_52), (0, .ref (g.2.2.1 k0)), (1, .int a1), (2, .int a2), (5, .int x5_36)]) hx hb dX11_slip_106 rfl hl (by decide) rfl (fun ls hl => ?_)
                  obtain ⟨x5_53, ex5_53⟩ : ∃ z : Int32, z = (x5_36 + (1 : Int32)) := ⟨_, rfl⟩
                  have hf := x_lE ex5_53 hf
                  refine lv_iinc (v := x5_53) (lv' := [(5, .int x5_53), (3, .long x3_52), (0, .ref (g.2.2.1 k0)), (1, .int a1), (2, .int a2)]) hx hb dX11_slip_107 hl (k := 4) rfl (by rw [ex5_53]; rfl) (by decide) rfl (fun ls hl => ?_)
                  refine lv_goto (tgt := 39) hx hb dX11_slip_110 (by decide) ?_
                  exact ih_39 _ _ _ _ _ _ (lv_sub hl [2, 3, 4, 1, 0] rfl) hw hf
                refine lv_if_ne (tgt := 104) hx hb dX11_slip_95 (by decide) (fun q_54 => ?_) (fun q_54 => ?_)
                · have hf := x_iN hf q_54
                  refine lv_lconst (v := 0) hx hb dX11_slip_104 (by decide) ?_
                  exact hk105_50 _ _ _ _ _ (lv_sub hl [1, 2, 3, 5] rfl) hw hf
                · have hf := x_iP hf q_54
                  refine lv_iload hx hb dX11_slip_98 (lv_at hl 0 rfl) ?_
                  refine lv_i2l hx hb dX11_slip_100 rfl ?_
                  refine lv_goto (tgt := 105) hx hb dX11_slip_101 (by decide) ?_
                  exact hk105_50 _ _ _ _ _ (lv_sub hl [1, 2, 3, 5] rfl) hw hf
              refine lv_if_ne (tgt := 79) hx hb dX11_slip_68 (by decide) (fun q_55 => ?_) (fun q_55 => ?_)
              · have hf := x_iN hf q_55
                refine lv_iload hx hb dX11_slip_79 (lv_at hl 0 rfl) ?_
                refine lv_i2l hx hb dX11_slip_81 rfl ?_
                refine lv_lload_n hx hb dX11_slip_82 rfl (lv_at hl 4 rfl) ?_
                refine W.lcmp hx hb dX11_slip_83 ?_
                refine lv_if_eq (tgt := 90) hx hb dX11_slip_84 (by decide) (fun q_56 => ?_) (fun q_56 => ?_)
                · have hf := x_iP hf q_56
                  exact hk90_46 _ _ _ _ (lv_sub hl [0, 1, 2, 3, 4, 5] rfl) hw hf
                · have hf := x_iN hf q_56
                  refine lv_iload hx hb dX11_slip_87 (lv_at hl 5 rfl) ?_
                  exact ret hf dX11_slip_89 hw
              · have hf := x_iP hf q_55
                refine lv_iload hx hb dX11_slip_71 (lv_at hl 0 rfl) ?_
                refine lv_if_ge (tgt := 90) hx hb dX11_slip_73 (by decide) (fun q_57 => ?_) (fun q_57 => ?_)
                · have hf := x_iP hf q_57
                  exact hk90_46 _ _ _ _ (lv_sub hl [0, 1, 2, 3, 4, 5] rfl) hw hf
                · have hf := x_iN hf q_57
                  exact hk76_33 _ _ _ _ _ (lv_sub hl [5] rfl) hw hf
        exact hL_58 _ _ _ _ _ _ _ (lv_sub hl [2, 3, 4, 1, 0] rfl) hw hf
      · have hf := x_iP hf q_11
        refine lv_ldcw hx hb hown (hB _ mk_X11_272) dX11_slip_30 ?_
        exact ret hf dX11_slip_33 hw
    · have hf := x_iP hf q_8
      refine lv_ldc hx hb hown (hB _ mk_X11_60) dX11_slip_17 ?_
      exact ret hf dX11_slip_19 hw
def fX11_keep_L2 (k0 : Nat) (k27_1 : xM → Option (Int32 × xM)) : Nat → xM → Int32 → Option (Int32 × xM)
  | 0, _, _ => none
  | n_9 + 1, M_8, x1_7 => if (1675 : Int32) ≤ x1_7 then (k27_1 M_8) else (x_g x1_7 (xn 1 (xr 1 k0 0)) (x_g x1_7 (xn 1 (xr 1 k0 1)) (x_l (x_up M_8 (xr 1 k0 1) x1_7.toNatClampNeg (M_8 (xr 1 k0 0) x1_7.toNatClampNeg)) fun M_16 => x_l (x1_7 + (1 : Int32)) fun x1_17 => fX11_keep_L2 k0 k27_1 n_9 M_16 x1_17)))
def fX11_keep (M : xM) (k0 : Nat) : Option (Int32 × xM) := x_l (fun (M_2 : xM) => x_z (1 : Int32) (x_l (x_up M_2 k0 2 (1 : Int32)) fun M_3 => x_g (0 : Int32) (xn 1 (xr 1 k0 0)) (some ((M_3 (xr 1 k0 0) (0 : Int32).toNatClampNeg), M_3)))) fun k27_1 => fX11_keep_L2 k0 k27_1 x_FU M (0 : Int32)
set_option maxRecDepth 100000 in
set_option maxHeartbeats 4000000 in
theorem mX11_keep (l : Launch) (g : xG) {k0 : Nat} {r : Int32} {M' : xM} (h0 : x_is 1 k0 11) {M : xM} (hf : fX11_keep M k0 = some (r, M')) : x_cI l g 1 yX11_keep cX11_keep 2 .int 0 0 [.ref (g.2.2.1 k0)] M (fun v N => v = r ∧ N = M') := by
  refine x_stI RX11 (by decide) rfl (Nat.le_of_ble_eq_true rfl) ?_
  intro p e s m args below meth c Q ls C hw ret hl
  obtain ⟨hx, hb, hml, hown, hB, -⟩ := id C
  have hl : lv_has ls 2 [(0, .ref (g.2.2.1 k0))] := hl
  unfold fX11_keep at hf
  refine lv_iconst (v := (0 : Int32)) hx hb dX11_keep_0 (by decide) ?_
  refine lv_istore_n (lv' := [(1, .int (0 : Int32)), (0, .ref (g.2.2.1 k0))]) hx hb dX11_keep_1 rfl hl (by decide) rfl (fun ls hl => ?_)
  obtain ⟨k27_1, ek27_1, hf⟩ := x_jE hf
  have hk27_1 : ∀ (H : Heap) (locs : List Loc) (M_2 : xM)  (ls : Array Slot) , lv_has ls 2 [(0, .ref (g.2.2.1 k0))] → x_w g 1 s H locs M_2 → k27_1 M_2 = some (r, M') → W p l e (x_rm 0 0) s m args below meth c H locs 0 0 Q (F0 m 27 ls []) := by
    intro H locs M_2  ls  hl hw hf
    rw [ek27_1] at hf
    refine lv_aload_n hx hb dX11_keep_27 rfl (lv_at hl 0 rfl) ?_
    refine lv_iconst (v := (1 : Int32)) hx hb dX11_keep_28 (by decide) ?_
    obtain ⟨q_4, hf⟩ := x_zE hf
    refine fp_X11_275 C hw q_4 h0 dX11_keep_29 (fun H locs hw => ?_)
    obtain ⟨M_3, eM_3⟩ : ∃ z, z = (x_up M_2 k0 2 (1 : Int32)) := ⟨_, rfl⟩
    rw [← eM_3] at hw
    have hf := x_lE eM_3 hf
    refine lv_aload_n hx hb dX11_keep_32 rfl (lv_at hl 0 rfl) ?_
    refine fg_X11_7 C hw h0 dX11_keep_33 ?_
    have h_5 : x_is 1 (xr 1 k0 0) 12 := x_tm h0 (by decide) rfl
    refine lv_iconst (v := (0 : Int32)) hx hb dX11_keep_36 (by decide) ?_
    obtain ⟨q_6, hf⟩ := x_gE hf
    refine x_ald C hw h_5 q_6 dX11_keep_37 ?_
    exact ret hf dX11_keep_38 hw
  have hL_18 : ∀ (n_9 : Nat) (H : Heap) (locs : List Loc) (M_8 : xM) (x1_7 : Int32) (ls : Array Slot) , lv_has ls 2 [(0, .ref (g.2.2.1 k0)), (1, .int x1_7)] → x_w g 1 s H locs M_8 → fX11_keep_L2 k0 k27_1 n_9 M_8 x1_7 = some (r, M') → W p l e (x_rm 0 0) s m args below meth c H locs 0 0 Q (F0 m 2 ls []) := by
    intro n_9
    induction n_9 with
    | zero =>
      intro H locs M_8 x1_7 ls  hl hw hf
      rw [fX11_keep_L2] at hf
      cases hf
    | succ n_9 ih_10 =>
      intro H locs M_8 x1_7 ls  hl hw hf
      rw [fX11_keep_L2] at hf
      refine lv_iload_n hx hb dX11_keep_2 rfl (lv_at hl 1 rfl) ?_
      refine lv_sipush (v := (1675 : Int32)) hx hb dX11_keep_3 (by decide) ?_
      refine lv_icmp_ge (tgt := 27) hx hb dX11_keep_6 (by decide) (fun q_11 => ?_) (fun q_11 => ?_)
      · have hf := x_iP hf q_11
        exact hk27_1 _ _ _ _ (lv_sub hl [0] rfl) hw hf
      · have hf := x_iN hf q_11
        refine lv_aload_n hx hb dX11_keep_9 rfl (lv_at hl 0 rfl) ?_
        refine fg_X11_13 C hw h0 dX11_keep_10 ?_
        have h_12 : x_is 1 (xr 1 k0 1) 12 := x_tm h0 (by decide) rfl
        refine lv_iload_n hx hb dX11_keep_13 rfl (lv_at hl 1 rfl) ?_
        refine lv_aload_n hx hb dX11_keep_14 rfl (lv_at hl 0 rfl) ?_
        refine fg_X11_7 C hw h0 dX11_keep_15 ?_
        have h_13 : x_is 1 (xr 1 k0 0) 12 := x_tm h0 (by decide) rfl
        refine lv_iload_n hx hb dX11_keep_18 rfl (lv_at hl 1 rfl) ?_
        obtain ⟨q_14, hf⟩ := x_gE hf
        refine x_ald C hw h_13 q_14 dX11_keep_19 ?_
        obtain ⟨q_15, hf⟩ := x_gE hf
        refine x_ast C hw h_12 q_15 dX11_keep_20 (fun H locs hw => ?_)
        obtain ⟨M_16, eM_16⟩ : ∃ z, z = (x_up M_8 (xr 1 k0 1) x1_7.toNatClampNeg (M_8 (xr 1 k0 0) x1_7.toNatClampNeg)) := ⟨_, rfl⟩
        rw [← eM_16] at hw
        have hf := x_lE eM_16 hf
        obtain ⟨x1_17, ex1_17⟩ : ∃ z : Int32, z = (x1_7 + (1 : Int32)) := ⟨_, rfl⟩
        have hf := x_lE ex1_17 hf
        refine lv_iinc (v := x1_17) (lv' := [(1, .int x1_17), (0, .ref (g.2.2.1 k0))]) hx hb dX11_keep_21 hl (k := 1) rfl (by rw [ex1_17]; rfl) (by decide) rfl (fun ls hl => ?_)
        refine lv_goto (tgt := 2) hx hb dX11_keep_24 (by decide) ?_
        exact ih_10 _ _ _ _ _ (lv_sub hl [1, 0] rfl) hw hf
  exact hL_18 _ _ _ _ _ _ (lv_sub hl [1, 0] rfl) hw hf
def fX11_again_L12 (k0 : Nat) (k37_2 : xM → Option (Int32 × xM)) : Nat → xM → Int32 → Option (Int32 × xM)
  | 0, _, _ => none
  | n_8 + 1, M_7, x1_6 => if (1675 : Int32) ≤ x1_6 then (k37_2 M_7) else (x_g x1_6 (xn 1 (xr 1 k0 1)) (x_g x1_6 (xn 1 (xr 1 k0 0)) (x_l (x_up M_7 (xr 1 k0 0) x1_6.toNatClampNeg (M_7 (xr 1 k0 1) x1_6.toNatClampNeg)) fun M_15 => x_l (x1_6 + (1 : Int32)) fun x1_16 => fX11_again_L12 k0 k37_2 n_8 M_15 x1_16)))
def fX11_again (M : xM) (k0 : Nat) : Option (Int32 × xM) := if (M k0 2) = 0 then (some ((-1000000002 : Int32), M)) else (x_l (fun (M_3 : xM) => x_g (0 : Int32) (xn 1 (xr 1 k0 0)) (some ((M_3 (xr 1 k0 0) (0 : Int32).toNatClampNeg), M_3))) fun k37_2 => fX11_again_L12 k0 k37_2 x_FU M (0 : Int32))
set_option maxRecDepth 100000 in
set_option maxHeartbeats 4000000 in
theorem mX11_again (l : Launch) (g : xG) {k0 : Nat} {r : Int32} {M' : xM} (h0 : x_is 1 k0 11) {M : xM} (hf : fX11_again M k0 = some (r, M')) : x_cI l g 1 yX11_again cX11_again 2 .int 0 0 [.ref (g.2.2.1 k0)] M (fun v N => v = r ∧ N = M') := by
  refine x_stI RX11 (by decide) rfl (Nat.le_of_ble_eq_true rfl) ?_
  intro p e s m args below meth c Q ls C hw ret hl
  obtain ⟨hx, hb, hml, hown, hB, -⟩ := id C
  have hl : lv_has ls 2 [(0, .ref (g.2.2.1 k0))] := hl
  unfold fX11_again at hf
  refine lv_aload_n hx hb dX11_again_0 rfl (lv_at hl 0 rfl) ?_
  refine fg_X11_275 C hw h0 dX11_again_1 ?_
  refine lv_if_ne (tgt := 10) hx hb dX11_again_4 (by decide) (fun q_1 => ?_) (fun q_1 => ?_)
  · have hf := x_iN hf q_1
    refine lv_iconst (v := (0 : Int32)) hx hb dX11_again_10 (by decide) ?_
    refine lv_istore_n (lv' := [(1, .int (0 : Int32)), (0, .ref (g.2.2.1 k0))]) hx hb dX11_again_11 rfl hl (by decide) rfl (fun ls hl => ?_)
    obtain ⟨k37_2, ek37_2, hf⟩ := x_jE hf
    have hk37_2 : ∀ (H : Heap) (locs : List Loc) (M_3 : xM)  (ls : Array Slot) , lv_has ls 2 [(0, .ref (g.2.2.1 k0))] → x_w g 1 s H locs M_3 → k37_2 M_3 = some (r, M') → W p l e (x_rm 0 0) s m args below meth c H locs 0 0 Q (F0 m 37 ls []) := by
      intro H locs M_3  ls  hl hw hf
      rw [ek37_2] at hf
      refine lv_aload_n hx hb dX11_again_37 rfl (lv_at hl 0 rfl) ?_
      refine fg_X11_7 C hw h0 dX11_again_38 ?_
      have h_4 : x_is 1 (xr 1 k0 0) 12 := x_tm h0 (by decide) rfl
      refine lv_iconst (v := (0 : Int32)) hx hb dX11_again_41 (by decide) ?_
      obtain ⟨q_5, hf⟩ := x_gE hf
      refine x_ald C hw h_4 q_5 dX11_again_42 ?_
      exact ret hf dX11_again_43 hw
    have hL_17 : ∀ (n_8 : Nat) (H : Heap) (locs : List Loc) (M_7 : xM) (x1_6 : Int32) (ls : Array Slot) , lv_has ls 2 [(0, .ref (g.2.2.1 k0)), (1, .int x1_6)] → x_w g 1 s H locs M_7 → fX11_again_L12 k0 k37_2 n_8 M_7 x1_6 = some (r, M') → W p l e (x_rm 0 0) s m args below meth c H locs 0 0 Q (F0 m 12 ls []) := by
      intro n_8
      induction n_8 with
      | zero =>
        intro H locs M_7 x1_6 ls  hl hw hf
        rw [fX11_again_L12] at hf
        cases hf
      | succ n_8 ih_9 =>
        intro H locs M_7 x1_6 ls  hl hw hf
        rw [fX11_again_L12] at hf
        refine lv_iload_n hx hb dX11_again_12 rfl (lv_at hl 1 rfl) ?_
        refine lv_sipush (v := (1675 : Int32)) hx hb dX11_again_13 (by decide) ?_
        refine lv_icmp_ge (tgt := 37) hx hb dX11_again_16 (by decide) (fun q_10 => ?_) (fun q_10 => ?_)
        · have hf := x_iP hf q_10
          exact hk37_2 _ _ _ _ (lv_sub hl [0] rfl) hw hf
        · have hf := x_iN hf q_10
          refine lv_aload_n hx hb dX11_again_19 rfl (lv_at hl 0 rfl) ?_
          refine fg_X11_7 C hw h0 dX11_again_20 ?_
          have h_11 : x_is 1 (xr 1 k0 0) 12 := x_tm h0 (by decide) rfl
          refine lv_iload_n hx hb dX11_again_23 rfl (lv_at hl 1 rfl) ?_
          refine lv_aload_n hx hb dX11_again_24 rfl (lv_at hl 0 rfl) ?_
          refine fg_X11_13 C hw h0 dX11_again_25 ?_
          have h_12 : x_is 1 (xr 1 k0 1) 12 := x_tm h0 (by decide) rfl
          refine lv_iload_n hx hb dX11_again_28 rfl (lv_at hl 1 rfl) ?_
          obtain ⟨q_13, hf⟩ := x_gE hf
          refine x_ald C hw h_12 q_13 dX11_again_29 ?_
          obtain ⟨q_14, hf⟩ := x_gE hf
          refine x_ast C hw h_11 q_14 dX11_again_30 (fun H locs hw => ?_)
          obtain ⟨M_15, eM_15⟩ : ∃ z, z = (x_up M_7 (xr 1 k0 0) x1_6.toNatClampNeg (M_7 (xr 1 k0 1) x1_6.toNatClampNeg)) := ⟨_, rfl⟩
          rw [← eM_15] at hw
          have hf := x_lE eM_15 hf
          obtain ⟨x1_16, ex1_16⟩ : ∃ z : Int32, z = (x1_6 + (1 : Int32)) := ⟨_, rfl⟩
          have hf := x_lE ex1_16 hf
          refine lv_iinc (v := x1_16) (lv' := [(1, .int x1_16), (0, .ref (g.2.2.1 k0))]) hx hb dX11_again_31 hl (k := 1) rfl (by rw [ex1_16]; rfl) (by decide) rfl (fun ls hl => ?_)
          refine lv_goto (tgt := 12) hx hb dX11_again_34 (by decide) ?_
          exact ih_9 _ _ _ _ _ (lv_sub hl [1, 0] rfl) hw hf
    exact hL_17 _ _ _ _ _ _ (lv_sub hl [1, 0] rfl) hw hf
  · have hf := x_iP hf q_1
    refine lv_ldc hx hb hown (hB _ mk_X11_69) dX11_again_7 ?_
    exact ret hf dX11_again_9 hw
def fX11_sheet_L35 (k0 : Nat) (a1 : Int32) (a2 : Int32) : Nat → xM → Int32 → Option (Int32 × xM)
  | 0, _, _ => none
  | n_12 + 1, M_11, x3_10 => if a2 ≤ x3_10 then (some (a2, M_11)) else (x_g (((24 : Int32) * a1) + x3_10) (xn 1 (xr 1 k0 28)) (x_l (x_up M_11 (xr 1 k0 28) (((24 : Int32) * a1) + x3_10).toNatClampNeg (0 : Int32)) fun M_17 => x_l (x3_10 + (1 : Int32)) fun x3_18 => fX11_sheet_L35 k0 a1 a2 n_12 M_17 x3_18))
def fX11_sheet (M : xM) (k0 : Nat) (a1 : Int32) (a2 : Int32) : Option (Int32 × xM) := x_b (fX11_in M a1 (0 : Int32) (1 : Int32)) fun v_3 M_1 => if v_3 = 0 then (some ((-1000000001 : Int32), M_1)) else (if a2 ≤ (24 : Int32) then (if 0 ≤ a2 then (x_g a1 (xn 1 (xr 1 k0 29)) (x_l (x_up M_1 (xr 1 k0 29) a1.toNatClampNeg a2) fun M_9 => fX11_sheet_L35 k0 a1 a2 x_FU M_9 (0 : Int32))) else (some ((-1000000014 : Int32), M_1))) else (some ((-1000000001 : Int32), M_1)))
set_option maxRecDepth 100000 in
set_option maxHeartbeats 4000000 in
theorem mX11_sheet (l : Launch) (g : xG) {k0 : Nat} {a1 : Int32} {a2 : Int32} {r : Int32} {M' : xM} (h0 : x_is 1 k0 11) {M : xM} (hf : fX11_sheet M k0 a1 a2 = some (r, M')) : x_cI l g 1 yX11_sheet cX11_sheet 4 .int 1 22 [.ref (g.2.2.1 k0), .int a1, .int a2] M (fun v N => v = r ∧ N = M') := by
  refine x_stI RX11 (by decide) rfl (Nat.le_of_ble_eq_true rfl) ?_
  intro p e s m args below meth c Q ls C hw ret hl
  obtain ⟨hx, hb, hml, hown, hB, -⟩ := id C
  have hl : lv_has ls 4 [(0, .ref (g.2.2.1 k0)), (1, .int a1), (2, .int a2)] := hl
  unfold fX11_sheet at hf
  refine lv_iload_n hx hb dX11_sheet_0 rfl (lv_at hl 1 rfl) ?_
  refine lv_iconst (v := (0 : Int32)) hx hb dX11_sheet_1 (by decide) ?_
  refine lv_iconst (v := (1 : Int32)) hx hb dX11_sheet_2 (by decide) ?_
  obtain ⟨tv_3, tM_1, c_2, hf⟩ := x_bE hf
  refine x_sI C hw hl.1 [.int a1, .int (0 : Int32), .int (1 : Int32)] [] (mX11_in l g c_2) lk_X11_56 (by decide) rfl (Nat.le_of_ble_eq_true rfl) ⟨Nat.zero_le _, Nat.zero_le _⟩ dX11_sheet_3 (fun v_3 M_1 H locs hN hw => ?_)
  obtain ⟨rfl, rfl⟩ := hN
  refine lv_if_eq (tgt := 15) hx hb dX11_sheet_6 (by decide) (fun q_4 => ?_) (fun q_4 => ?_)
  · have hf := x_iP hf q_4
    refine lv_ldc hx hb hown (hB _ mk_X11_60) dX11_sheet_15 ?_
    exact ret hf dX11_sheet_17 hw
  · have hf := x_iN hf q_4
    refine lv_iload_n hx hb dX11_sheet_9 rfl (lv_at hl 2 rfl) ?_
    refine lv_bipush (v := (24 : Int32)) hx hb dX11_sheet_10 (by decide) ?_
    refine lv_icmp_le (tgt := 18) hx hb dX11_sheet_12 (by decide) (fun q_5 => ?_) (fun q_5 => ?_)
    · have hf := x_iP hf q_5
      refine lv_iload_n hx hb dX11_sheet_18 rfl (lv_at hl 2 rfl) ?_
      refine lv_if_ge (tgt := 26) hx hb dX11_sheet_19 (by decide) (fun q_6 => ?_) (fun q_6 => ?_)
      · have hf := x_iP hf q_6
        refine lv_aload_n hx hb dX11_sheet_26 rfl (lv_at hl 0 rfl) ?_
        refine fg_X11_49 C hw h0 dX11_sheet_27 ?_
        have h_7 : x_is 1 (xr 1 k0 29) 12 := x_tm h0 (by decide) rfl
        refine lv_iload_n hx hb dX11_sheet_30 rfl (lv_at hl 1 rfl) ?_
        refine lv_iload_n hx hb dX11_sheet_31 rfl (lv_at hl 2 rfl) ?_
        obtain ⟨q_8, hf⟩ := x_gE hf
        refine x_ast C hw h_7 q_8 dX11_sheet_32 (fun H locs hw => ?_)
        obtain ⟨M_9, eM_9⟩ : ∃ z, z = (x_up M_1 (xr 1 k0 29) a1.toNatClampNeg a2) := ⟨_, rfl⟩
        rw [← eM_9] at hw
        have hf := x_lE eM_9 hf
        refine lv_iconst (v := (0 : Int32)) hx hb dX11_sheet_33 (by decide) ?_
        refine lv_istore_n (lv' := [(3, .int (0 : Int32)), (0, .ref (g.2.2.1 k0)), (1, .int a1), (2, .int a2)]) hx hb dX11_sheet_34 rfl hl (by decide) rfl (fun ls hl => ?_)
        have hL_19 : ∀ (n_12 : Nat) (H : Heap) (locs : List Loc) (M_11 : xM) (x3_10 : Int32) (ls : Array Slot) , lv_has ls 4 [(0, .ref (g.2.2.1 k0)), (1, .int a1), (2, .int a2), (3, .int x3_10)] → x_w g 1 s H locs M_11 → fX11_sheet_L35 k0 a1 a2 n_12 M_11 x3_10 = some (r, M') → W p l e (x_rm 1 22) s m args below meth c H locs 0 0 Q (F0 m 35 ls []) := by
          intro n_12
          induction n_12 with
          | zero =>
            intro H locs M_11 x3_10 ls  hl hw hf
            rw [fX11_sheet_L35] at hf
            cases hf
          | succ n_12 ih_13 =>
            intro H locs M_11 x3_10 ls  hl hw hf
            rw [fX11_sheet_L35] at hf
            refine lv_iload_n hx hb dX11_sheet_35 rfl (lv_at hl 3 rfl) ?_
            refine lv_iload_n hx hb dX11_sheet_36 rfl (lv_at hl 2 rfl) ?_
            refine lv_icmp_ge (tgt := 58) hx hb dX11_sheet_37 (by decide) (fun q_14 => ?_) (fun q_14 => ?_)
            · have hf := x_iP hf q_14
              refine lv_iload_n hx hb dX11_sheet_58 rfl (lv_at hl 2 rfl) ?_
              exact ret hf dX11_sheet_59 hw
            · have hf := x_iN hf q_14
              refine lv_aload_n hx hb dX11_sheet_40 rfl (lv_at hl 0 rfl) ?_
              refine fg_X11_46 C hw h0 dX11_sheet_41 ?_
              have h_15 : x_is 1 (xr 1 k0 28) 12 := x_tm h0 (by decide) rfl
              refine lv_bipush (v := (24 : Int32)) hx hb dX11_sheet_44 (by decide) ?_
              refine lv_iload_n hx hb dX11_sheet_46 rfl (lv_at hl 1 rfl) ?_
              refine lv_imul hx hb dX11_sheet_47 ?_
              refine lv_iload_n hx hb dX11_sheet_48 rfl (lv_at hl 3 rfl) ?_
              refine lv_iadd hx hb dX11_sheet_49 ?_
              refine lv_iconst (v := (0 : Int32)) hx hb dX11_sheet_50 (by decide) ?_
              obtain ⟨q_16, hf⟩ := x_gE hf
              refine x_ast C hw h_15 q_16 dX11_sheet_51 (fun H locs hw => ?_)
              obtain ⟨M_17, eM_17⟩ : ∃ z, z = (x_up M_11 (xr 1 k0 28) (((24 : Int32) * a1) + x3_10).toNatClampNeg (0 : Int32)) := ⟨_, rfl⟩
              rw [← eM_17] at hw
              have hf := x_lE eM_17 hf
              obtain ⟨x3_18, ex3_18⟩ : ∃ z : Int32, z = (x3_10 + (1 : Int32)) := ⟨_, rfl⟩
              have hf := x_lE ex3_18 hf
              refine lv_iinc (v := x3_18) (lv' := [(3, .int x3_18), (0, .ref (g.2.2.1 k0)), (1, .int a1), (2, .int a2)]) hx hb dX11_sheet_52 hl (k := 3) rfl (by rw [ex3_18]; rfl) (by decide) rfl (fun ls hl => ?_)
              refine lv_goto (tgt := 35) hx hb dX11_sheet_55 (by decide) ?_
              exact ih_13 _ _ _ _ _ (lv_sub hl [1, 2, 3, 0] rfl) hw hf
        exact hL_19 _ _ _ _ _ _ (lv_sub hl [1, 2, 3, 0] rfl) hw hf
      · have hf := x_iN hf q_6
        refine lv_ldcw hx hb hown (hB _ mk_X11_278) dX11_sheet_22 ?_
        exact ret hf dX11_sheet_25 hw
    · have hf := x_iN hf q_5
      refine lv_ldc hx hb hown (hB _ mk_X11_60) dX11_sheet_15 ?_
      exact ret hf dX11_sheet_17 hw
def fX11_mark (M : xM) (k0 : Nat) (a1 : Int32) (a2 : Int32) (a3 : Int32) : Option (Int32 × xM) := x_b (fX11_in M a1 (0 : Int32) (1 : Int32)) fun v_3 M_1 => if v_3 = 0 then (some ((-1000000001 : Int32), M_1)) else (x_g a1 (xn 1 (xr 1 k0 29)) (if (M_1 (xr 1 k0 29) a1.toNatClampNeg) = (-1 : Int32) then (some ((-1000000011 : Int32), M_1)) else (x_g a1 (xn 1 (xr 1 k0 29)) (x_b (fX11_in M_1 a2 (0 : Int32) ((M_1 (xr 1 k0 29) a1.toNatClampNeg) - (1 : Int32))) fun v_11 M_9 => if v_11 = 0 then (some ((-1000000013 : Int32), M_9)) else (x_g (((24 : Int32) * a1) + a2) (xn 1 (xr 1 k0 28)) (x_l (M_9 (xr 1 k0 28) (((24 : Int32) * a1) + a2).toNatClampNeg) fun x4_15 => x_g (((24 : Int32) * a1) + a2) (xn 1 (xr 1 k0 28)) (x_l (x_up M_9 (xr 1 k0 28) (((24 : Int32) * a1) + a2).toNatClampNeg a3) fun M_17 => some (x4_15, M_17))))))))
set_option maxRecDepth 100000 in
set_option maxHeartbeats 4000000 in
theorem mX11_mark (l : Launch) (g : xG) {k0 : Nat} {a1 : Int32} {a2 : Int32} {a3 : Int32} {r : Int32} {M' : xM} (h0 : x_is 1 k0 11) {M : xM} (hf : fX11_mark M k0 a1 a2 a3 = some (r, M')) : x_cI l g 1 yX11_mark cX11_mark 5 .int 1 22 [.ref (g.2.2.1 k0), .int a1, .int a2, .int a3] M (fun v N => v = r ∧ N = M') := by
  refine x_stI RX11 (by decide) rfl (Nat.le_of_ble_eq_true rfl) ?_
  intro p e s m args below meth c Q ls C hw ret hl
  obtain ⟨hx, hb, hml, hown, hB, -⟩ := id C
  have hl : lv_has ls 5 [(0, .ref (g.2.2.1 k0)), (1, .int a1), (2, .int a2), (3, .int a3)] := hl
  unfold fX11_mark at hf
  refine lv_iload_n hx hb dX11_mark_0 rfl (lv_at hl 1 rfl) ?_
  refine lv_iconst (v := (0 : Int32)) hx hb dX11_mark_1 (by decide) ?_
  refine lv_iconst (v := (1 : Int32)) hx hb dX11_mark_2 (by decide) ?_
  obtain ⟨tv_3, tM_1, c_2, hf⟩ := x_bE hf
  refine x_sI C hw hl.1 [.int a1, .int (0 : Int32), .int (1 : Int32)] [] (mX11_in l g c_2) lk_X11_56 (by decide) rfl (Nat.le_of_ble_eq_true rfl) ⟨Nat.zero_le _, Nat.zero_le _⟩ dX11_mark_3 (fun v_3 M_1 H locs hN hw => ?_)
  obtain ⟨rfl, rfl⟩ := hN
  refine lv_if_ne (tgt := 12) hx hb dX11_mark_6 (by decide) (fun q_4 => ?_) (fun q_4 => ?_)
  · have hf := x_iN hf q_4
    refine lv_aload_n hx hb dX11_mark_12 rfl (lv_at hl 0 rfl) ?_
    refine fg_X11_49 C hw h0 dX11_mark_13 ?_
    have h_5 : x_is 1 (xr 1 k0 29) 12 := x_tm h0 (by decide) rfl
    refine lv_iload_n hx hb dX11_mark_16 rfl (lv_at hl 1 rfl) ?_
    obtain ⟨q_6, hf⟩ := x_gE hf
    refine x_ald C hw h_5 q_6 dX11_mark_17 ?_
    refine lv_iconst (v := (-1 : Int32)) hx hb dX11_mark_18 (by decide) ?_
    refine lv_icmp_ne (tgt := 26) hx hb dX11_mark_19 (by decide) (fun q_7 => ?_) (fun q_7 => ?_)
    · have hf := x_iN hf q_7
      refine lv_iload_n hx hb dX11_mark_26 rfl (lv_at hl 2 rfl) ?_
      refine lv_iconst (v := (0 : Int32)) hx hb dX11_mark_27 (by decide) ?_
      refine lv_aload_n hx hb dX11_mark_28 rfl (lv_at hl 0 rfl) ?_
      refine fg_X11_49 C hw h0 dX11_mark_29 ?_
      refine lv_iload_n hx hb dX11_mark_32 rfl (lv_at hl 1 rfl) ?_
      obtain ⟨q_8, hf⟩ := x_gE hf
      refine x_ald C hw h_5 q_8 dX11_mark_33 ?_
      refine lv_iconst (v := (1 : Int32)) hx hb dX11_mark_34 (by decide) ?_
      refine lv_isub hx hb dX11_mark_35 ?_
      obtain ⟨tv_11, tM_9, c_10, hf⟩ := x_bE hf
      refine x_sI C hw hl.1 [.int a2, .int (0 : Int32), .int ((M_1 (xr 1 k0 29) a1.toNatClampNeg) - (1 : Int32))] [] (mX11_in l g c_10) lk_X11_56 (by decide) rfl (Nat.le_of_ble_eq_true rfl) ⟨Nat.zero_le _, Nat.zero_le _⟩ dX11_mark_36 (fun v_11 M_9 H locs hN hw => ?_)
      obtain ⟨rfl, rfl⟩ := hN
      refine lv_if_ne (tgt := 46) hx hb dX11_mark_39 (by decide) (fun q_12 => ?_) (fun q_12 => ?_)
      · have hf := x_iN hf q_12
        refine lv_aload_n hx hb dX11_mark_46 rfl (lv_at hl 0 rfl) ?_
        refine fg_X11_46 C hw h0 dX11_mark_47 ?_
        have h_13 : x_is 1 (xr 1 k0 28) 12 := x_tm h0 (by decide) rfl
        refine lv_bipush (v := (24 : Int32)) hx hb dX11_mark_50 (by decide) ?_
        refine lv_iload_n hx hb dX11_mark_52 rfl (lv_at hl 1 rfl) ?_
        refine lv_imul hx hb dX11_mark_53 ?_
        refine lv_iload_n hx hb dX11_mark_54 rfl (lv_at hl 2 rfl) ?_
        refine lv_iadd hx hb dX11_mark_55 ?_
        obtain ⟨q_14, hf⟩ := x_gE hf
        refine x_ald C hw h_13 q_14 dX11_mark_56 ?_
        refine lv_topi (fun x4_15 ex4_15 => ?_)
        have hf := x_lE ex4_15 hf
        refine lv_istore (lv' := [(4, .int x4_15), (0, .ref (g.2.2.1 k0)), (1, .int a1), (2, .int a2), (3, .int a3)]) hx hb dX11_mark_57 hl (by decide) rfl (fun ls hl => ?_)
        refine lv_aload_n hx hb dX11_mark_59 rfl (lv_at hl 1 rfl) ?_
        refine fg_X11_46 C hw h0 dX11_mark_60 ?_
        refine lv_bipush (v := (24 : Int32)) hx hb dX11_mark_63 (by decide) ?_
        refine lv_iload_n hx hb dX11_mark_65 rfl (lv_at hl 2 rfl) ?_
        refine lv_imul hx hb dX11_mark_66 ?_
        refine lv_iload_n hx hb dX11_mark_67 rfl (lv_at hl 3 rfl) ?_
        refine lv_iadd hx hb dX11_mark_68 ?_
        refine lv_iload_n hx hb dX11_mark_69 rfl (lv_at hl 4 rfl) ?_
        obtain ⟨q_16, hf⟩ := x_gE hf
        refine x_ast C hw h_13 q_16 dX11_mark_70 (fun H locs hw => ?_)
        obtain ⟨M_17, eM_17⟩ : ∃ z, z = (x_up M_9 (xr 1 k0 28) (((24 : Int32) * a1) + a2).toNatClampNeg a3) := ⟨_, rfl⟩
        rw [← eM_17] at hw
        have hf := x_lE eM_17 hf
        refine lv_iload hx hb dX11_mark_71 (lv_at hl 0 rfl) ?_
        exact ret hf dX11_mark_73 hw
      · have hf := x_iP hf q_12
        refine lv_ldcw hx hb hown (hB _ mk_X11_279) dX11_mark_42 ?_
        exact ret hf dX11_mark_45 hw
    · have hf := x_iP hf q_7
      refine lv_ldcw hx hb hown (hB _ mk_X11_272) dX11_mark_22 ?_
      exact ret hf dX11_mark_25 hw
  · have hf := x_iP hf q_4
    refine lv_ldc hx hb hown (hB _ mk_X11_60) dX11_mark_9 ?_
    exact ret hf dX11_mark_11 hw
