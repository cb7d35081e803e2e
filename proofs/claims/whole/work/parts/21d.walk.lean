def fX8_joinedDays_L7 (k0 : Nat) (a1 : Int32) (k68_3 : xM → Int32 → Int32 → Option (Int32 × xM)) : Nat → xM → Int32 → Int32 → Int32 → Option (Int32 × xM)
  | 0, _, _, _, _ => none
  | n_14 + 1, M_13, x2_10, x3_11, x4_12 => if (M_13 k0 3) ≤ x4_12 then (k68_3 M_13 x2_10 x3_11) else (x_g x4_12 (xn 0 (xr 0 k0 7)) (x_b (fX0_isOpenOf M_13 (xr 0 (xr 0 k0 7) x4_12.toNatClampNeg) a1) fun v_22 M_20 => x_l (fun (M_26 : xM) (x2_23 : Int32) (x3_24 : Int32) => x_l (x4_12 + (1 : Int32)) fun x4_27 => fX8_joinedDays_L7 k0 a1 k68_3 n_14 M_26 x2_23 x3_24 x4_27) fun k62_25 => if v_22 = 0 then (k62_25 M_20 x2_10 x3_11) else (x_g x4_12 (xn 0 (xr 0 k0 7)) (x_b (fX8_daysFor M_20 k0 (xr 0 (xr 0 k0 7) x4_12.toNatClampNeg)) fun v_32 M_30 => x_l (if x2_10 < v_32 then v_32 else x2_10) fun x2_33 => x_b (fX8_joinedShare M_30 k0 v_32) fun v_36 M_34 => x_l (x3_11 + v_36) fun x3_37 => k62_25 M_34 x2_33 x3_37))))
def fX8_joinedDays (M : xM) (k0 : Nat) (a1 : Int32) : Option (Int32 × xM) := x_l (fun (M_4 : xM) (x2_1 : Int32) (x3_2 : Int32) => x_b (fX8_joinedShare M_4 k0 x2_1) fun v_7 M_5 => x_g (5 : Int32) (xn 0 (xr 0 k0 9)) (some ((if (M_5 (xr 0 k0 9) (5 : Int32).toNatClampNeg) < ((x2_1 + x3_2) - v_7) then (M_5 (xr 0 k0 9) (5 : Int32).toNatClampNeg) else ((x2_1 + x3_2) - v_7)), M_5))) fun k68_3 => fX8_joinedDays_L7 k0 a1 k68_3 x_FU M (0 : Int32) (0 : Int32) (0 : Int32)
set_option maxRecDepth 100000 in
set_option maxHeartbeats 4000000 in
theorem mX8_joinedDays (l : Launch) (g : xG) {k0 : Nat} {a1 : Int32} {r : Int32} {M' : xM} (h0 : x_is 0 k0 8) {M : xM} (hf : fX8_joinedDays M k0 a1 = some (r, M')) : x_cI l g 0 yX8_joinedDays cX8_joinedDays 6 .int 4 89 [.ref (g.2.2.1 k0), .int a1] M (fun v N => v = r ∧ N = M') := by
  refine x_stI RX8 (by decide) rfl (Nat.le_of_ble_eq_true rfl) ?_
  intro p e s m args below meth c Q ls C hw ret hl
  obtain ⟨hx, hb, hml, hown, hB, -⟩ := id C
  have hl : lv_has ls 6 [(0, .ref (g.2.2.1 k0)), (1, .int a1)] := hl
  unfold fX8_joinedDays at hf
  refine lv_iconst (v := (0 : Int32)) hx hb dX8_joinedDays_0 (by decide) ?_
  refine lv_istore_n (lv' := [(2, .int (0 : Int32)), (0, .ref (g.2.2.1 k0)), (1, .int a1)]) hx hb dX8_joinedDays_1 rfl hl (by decide) rfl (fun ls hl => ?_)
  refine lv_iconst (v := (0 : Int32)) hx hb dX8_joinedDays_2 (by decide) ?_
  refine lv_istore_n (lv' := [(3, .int (0 : Int32)), (2, .int (0 : Int32)), (0, .ref (g.2.2.1 k0)), (1, .int a1)]) hx hb dX8_joinedDays_3 rfl hl (by decide) rfl (fun ls hl => ?_)
  refine lv_iconst (v := (0 : Int32)) hx hb dX8_joinedDays_4 (by decide) ?_
  refine lv_istore (lv' := [(4, .int (0 : Int32)), (3, .int (0 : Int32)), (2, .int (0 : Int32)), (0, .ref (g.2.2.1 k0)), (1, .int a1)]) hx hb dX8_joinedDays_5 hl (by decide) rfl (fun ls hl => ?_)
  obtain ⟨k68_3, ek68_3, hf⟩ := x_jE hf
  have hk68_3 : ∀ (H : Heap) (locs : List Loc) (M_4 : xM) (x2_1 : Int32) (x3_2 : Int32) (ls : Array Slot) , lv_has ls 6 [(0, .ref (g.2.2.1 k0)), (2, .int x2_1), (3, .int x3_2)] → x_w g 0 s H locs M_4 → k68_3 M_4 x2_1 x3_2 = some (r, M') → W p l e (x_rm 4 89) s m args below meth c H locs 0 0 Q (F0 m 68 ls []) := by
    intro H locs M_4 x2_1 x3_2 ls  hl hw hf
    rw [ek68_3] at hf
    refine lv_iload_n hx hb dX8_joinedDays_68 rfl (lv_at hl 1 rfl) ?_
    refine lv_iload_n hx hb dX8_joinedDays_69 rfl (lv_at hl 2 rfl) ?_
    refine lv_iadd hx hb dX8_joinedDays_70 ?_
    refine lv_aload_n hx hb dX8_joinedDays_71 rfl (lv_at hl 0 rfl) ?_
    refine lv_iload_n hx hb dX8_joinedDays_72 rfl (lv_at hl 1 rfl) ?_
    obtain ⟨tv_7, tM_5, c_6, hf⟩ := x_bE hf
    refine x_vI C hw hl.1 [.int x2_1] [.int (x2_1 + x3_2)] (mX8_joinedShare l g h0 c_6) lk_X8_212 h0 (by decide) rfl (by decide) rfl (Nat.le_of_ble_eq_true rfl) ⟨Nat.zero_le _, Nat.zero_le _⟩ dX8_joinedDays_73 (fun v_7 M_5 H locs hN hw => ?_)
    obtain ⟨rfl, rfl⟩ := hN
    refine lv_isub hx hb dX8_joinedDays_76 ?_
    refine lv_aload_n hx hb dX8_joinedDays_77 rfl (lv_at hl 0 rfl) ?_
    refine fg_X8_60 C hw h0 dX8_joinedDays_78 ?_
    have h_8 : x_is 0 (xr 0 k0 9) 12 := x_tr h0 (by decide) (by decide) rfl (by decide)
    refine lv_iconst (v := (5 : Int32)) hx hb dX8_joinedDays_81 (by decide) ?_
    obtain ⟨q_9, hf⟩ := x_gE hf
    refine x_ald C hw h_8 q_9 dX8_joinedDays_82 ?_
    refine mm_X8_215 C hl.1 (Nat.le_of_ble_eq_true rfl) (Nat.le_of_ble_eq_true rfl) ⟨Nat.zero_le _, Nat.zero_le _⟩ dX8_joinedDays_83 ?_
    exact ret hf dX8_joinedDays_86 hw
  have hL_38 : ∀ (n_14 : Nat) (H : Heap) (locs : List Loc) (M_13 : xM) (x2_10 : Int32) (x3_11 : Int32) (x4_12 : Int32) (ls : Array Slot) , lv_has ls 6 [(0, .ref (g.2.2.1 k0)), (1, .int a1), (2, .int x2_10), (3, .int x3_11), (4, .int x4_12)] → x_w g 0 s H locs M_13 → fX8_joinedDays_L7 k0 a1 k68_3 n_14 M_13 x2_10 x3_11 x4_12 = some (r, M') → W p l e (x_rm 4 89) s m args below meth c H locs 0 0 Q (F0 m 7 ls []) := by
    intro n_14
    induction n_14 with
    | zero =>
      intro H locs M_13 x2_10 x3_11 x4_12 ls  hl hw hf
      rw [fX8_joinedDays_L7] at hf
      cases hf
    | succ n_14 ih_15 =>
      intro H locs M_13 x2_10 x3_11 x4_12 ls  hl hw hf
      rw [fX8_joinedDays_L7] at hf
      refine lv_iload hx hb dX8_joinedDays_7 (lv_at hl 4 rfl) ?_
      refine lv_aload_n hx hb dX8_joinedDays_9 rfl (lv_at hl 0 rfl) ?_
      refine fg_X8_21 C hw h0 dX8_joinedDays_10 ?_
      refine lv_icmp_ge (tgt := 68) hx hb dX8_joinedDays_13 (by decide) (fun q_16 => ?_) (fun q_16 => ?_)
      · have hf := x_iP hf q_16
        exact hk68_3 _ _ _ _ _ _ (lv_sub hl [0, 2, 3] rfl) hw hf
      · have hf := x_iN hf q_16
        refine lv_aload_n hx hb dX8_joinedDays_16 rfl (lv_at hl 0 rfl) ?_
        refine fg_X8_41 C hw h0 dX8_joinedDays_17 ?_
        have h_17 : x_is 0 (xr 0 k0 7) 14 := x_tr h0 (by decide) (by decide) rfl (by decide)
        refine lv_iload hx hb dX8_joinedDays_20 (lv_at hl 4 rfl) ?_
        obtain ⟨q_18, hf⟩ := x_gE hf
        refine x_rld (t := 2) C hw h_17 (by decide) rfl q_18 dX8_joinedDays_22 ?_
        have h_19 : x_is 0 (xr 0 (xr 0 k0 7) x4_12.toNatClampNeg) 0 := x_ta h_17 (by decide) (x_ilt q_18)
        refine lv_iload_n hx hb dX8_joinedDays_23 rfl (lv_at hl 1 rfl) ?_
        obtain ⟨tv_22, tM_20, c_21, hf⟩ := x_bE hf
        refine x_vI C hw hl.1 [.int a1] [] (mX0_isOpenOf l g h_19 c_21) lk_X8_162 h_19 (by decide) rfl (by decide) rfl (Nat.le_of_ble_eq_true rfl) ⟨Nat.zero_le _, Nat.zero_le _⟩ dX8_joinedDays_24 (fun v_22 M_20 H locs hN hw => ?_)
        obtain ⟨rfl, rfl⟩ := hN
        obtain ⟨k62_25, ek62_25, hf⟩ := x_jE hf
        have hk62_25 : ∀ (H : Heap) (locs : List Loc) (M_26 : xM) (x2_23 : Int32) (x3_24 : Int32) (ls : Array Slot) , lv_has ls 6 [(0, .ref (g.2.2.1 k0)), (1, .int a1), (4, .int x4_12), (2, .int x2_23), (3, .int x3_24)] → x_w g 0 s H locs M_26 → k62_25 M_26 x2_23 x3_24 = some (r, M') → W p l e (x_rm 4 89) s m args below meth c H locs 0 0 Q (F0 m 62 ls []) := by
          intro H locs M_26 x2_23 x3_24 ls  hl hw hf
          rw [ek62_25] at hf
          obtain ⟨x4_27, ex4_27⟩ : ∃ z : Int32, z = (x4_12 + (1 : Int32)) := ⟨_, rfl⟩
          have hf := x_lE ex4_27 hf
          refine lv_iinc (v := x4_27) (lv' := [(4, .int x4_27), (0, .ref (g.2.2.1 k0)), (1, .int a1), (2, .int x2_23), (3, .int x3_24)]) hx hb dX8_joinedDays_62 hl (k := 2) rfl (by rw [ex4_27]; rfl) (by decide) rfl (fun ls hl => ?_)
          refine lv_goto (tgt := 7) hx hb dX8_joinedDays_65 (by decide) ?_
          exact ih_15 _ _ _ _ _ _ _ (lv_sub hl [1, 2, 3, 4, 0] rfl) hw hf
        refine lv_if_ne (tgt := 33) hx hb dX8_joinedDays_27 (by decide) (fun q_28 => ?_) (fun q_28 => ?_)
        · have hf := x_iN hf q_28
          refine lv_aload_n hx hb dX8_joinedDays_33 rfl (lv_at hl 0 rfl) ?_
          refine lv_aload_n hx hb dX8_joinedDays_34 rfl (lv_at hl 0 rfl) ?_
          refine fg_X8_41 C hw h0 dX8_joinedDays_35 ?_
          refine lv_iload hx hb dX8_joinedDays_38 (lv_at hl 4 rfl) ?_
          obtain ⟨q_29, hf⟩ := x_gE hf
          refine x_rld (t := 2) C hw h_17 (by decide) rfl q_29 dX8_joinedDays_40 ?_
          obtain ⟨tv_32, tM_30, c_31, hf⟩ := x_bE hf
          refine x_vI C hw hl.1 [.ref (g.2.2.1 (xr 0 (xr 0 k0 7) x4_12.toNatClampNeg))] [] (mX8_daysFor l g h0 h_19 c_31) lk_X8_209 h0 (by decide) rfl (by decide) rfl (Nat.le_of_ble_eq_true rfl) ⟨Nat.zero_le _, Nat.zero_le _⟩ dX8_joinedDays_41 (fun v_32 M_30 H locs hN hw => ?_)
          obtain ⟨rfl, rfl⟩ := hN
          refine lv_istore (lv' := [(5, .int v_32), (0, .ref (g.2.2.1 k0)), (1, .int a1), (2, .int x2_10), (3, .int x3_11), (4, .int x4_12)]) hx hb dX8_joinedDays_44 hl (by decide) rfl (fun ls hl => ?_)
          refine lv_iload_n hx hb dX8_joinedDays_46 rfl (lv_at hl 3 rfl) ?_
          refine lv_iload hx hb dX8_joinedDays_47 (lv_at hl 0 rfl) ?_
          refine mm_X8_142 C hl.1 (Nat.le_of_ble_eq_true rfl) (Nat.le_of_ble_eq_true rfl) ⟨Nat.zero_le _, Nat.zero_le _⟩ dX8_joinedDays_49 ?_
          refine lv_topi (fun x2_33 ex2_33 => ?_)
          have hf := x_lE ex2_33 hf
          refine lv_istore_n (lv' := [(2, .int x2_33), (5, .int v_32), (0, .ref (g.2.2.1 k0)), (1, .int a1), (3, .int x3_11), (4, .int x4_12)]) hx hb dX8_joinedDays_52 rfl hl (by decide) rfl (fun ls hl => ?_)
          refine lv_iload_n hx hb dX8_joinedDays_53 rfl (lv_at hl 4 rfl) ?_
          refine lv_aload_n hx hb dX8_joinedDays_54 rfl (lv_at hl 2 rfl) ?_
          refine lv_iload hx hb dX8_joinedDays_55 (lv_at hl 1 rfl) ?_
          obtain ⟨tv_36, tM_34, c_35, hf⟩ := x_bE hf
          refine x_vI C hw hl.1 [.int v_32] [.int x3_11] (mX8_joinedShare l g h0 c_35) lk_X8_212 h0 (by decide) rfl (by decide) rfl (Nat.le_of_ble_eq_true rfl) ⟨Nat.zero_le _, Nat.zero_le _⟩ dX8_joinedDays_57 (fun v_36 M_34 H locs hN hw => ?_)
          obtain ⟨rfl, rfl⟩ := hN
          refine lv_iadd hx hb dX8_joinedDays_60 ?_
          refine lv_topi (fun x3_37 ex3_37 => ?_)
          have hf := x_lE ex3_37 hf
          refine lv_istore_n (lv' := [(3, .int x3_37), (2, .int x2_33), (5, .int v_32), (0, .ref (g.2.2.1 k0)), (1, .int a1), (4, .int x4_12)]) hx hb dX8_joinedDays_61 rfl hl (by decide) rfl (fun ls hl => ?_)
          exact hk62_25 _ _ _ _ _ _ (lv_sub hl [3, 4, 5, 1, 0] rfl) hw hf
        · have hf := x_iP hf q_28
          refine lv_goto (tgt := 62) hx hb dX8_joinedDays_30 (by decide) ?_
          exact hk62_25 _ _ _ _ _ _ (lv_sub hl [0, 1, 4, 2, 3] rfl) hw hf
  exact hL_38 _ _ _ _ _ _ _ _ (lv_sub hl [3, 4, 2, 1, 0] rfl) hw hf
def fX8_deedsIn_L4 (k0 : Nat) (a1 : Int32) : Nat → xM → Int32 → Int32 → Option (Int32 × xM)
  | 0, _, _, _ => none
  | n_4 + 1, M_3, x2_1, x3_2 => if (M_3 k0 3) ≤ x3_2 then (some (x2_1, M_3)) else (x_g x3_2 (xn 0 (xr 0 k0 7)) (x_l (fun (M_12 : xM) (z_10 : Int32) => x_b (fX10_oneIf M_12 z_10) fun v_15 M_13 => x_l (x2_1 + v_15) fun x2_16 => x_l (x3_2 + (1 : Int32)) fun x3_17 => fX8_deedsIn_L4 k0 a1 n_4 M_13 x2_16 x3_17) fun k31_11 => if (M_3 (xr 0 (xr 0 k0 7) x3_2.toNatClampNeg) 4) = a1 then (k31_11 M_3 (1 : Int32)) else (k31_11 M_3 (0 : Int32))))
def fX8_deedsIn (M : xM) (k0 : Nat) (a1 : Int32) : Option (Int32 × xM) := fX8_deedsIn_L4 k0 a1 x_FU M (0 : Int32) (0 : Int32)
set_option maxRecDepth 100000 in
set_option maxHeartbeats 4000000 in
theorem mX8_deedsIn (l : Launch) (g : xG) {k0 : Nat} {a1 : Int32} {r : Int32} {M' : xM} (h0 : x_is 0 k0 8) {M : xM} (hf : fX8_deedsIn M k0 a1 = some (r, M')) : x_cI l g 0 yX8_deedsIn cX8_deedsIn 4 .int 1 20 [.ref (g.2.2.1 k0), .int a1] M (fun v N => v = r ∧ N = M') := by
  refine x_stI RX8 (by decide) rfl (Nat.le_of_ble_eq_true rfl) ?_
  intro p e s m args below meth c Q ls C hw ret hl
  obtain ⟨hx, hb, hml, hown, hB, -⟩ := id C
  have hl : lv_has ls 4 [(0, .ref (g.2.2.1 k0)), (1, .int a1)] := hl
  unfold fX8_deedsIn at hf
  refine lv_iconst (v := (0 : Int32)) hx hb dX8_deedsIn_0 (by decide) ?_
  refine lv_istore_n (lv' := [(2, .int (0 : Int32)), (0, .ref (g.2.2.1 k0)), (1, .int a1)]) hx hb dX8_deedsIn_1 rfl hl (by decide) rfl (fun ls hl => ?_)
  refine lv_iconst (v := (0 : Int32)) hx hb dX8_deedsIn_2 (by decide) ?_
  refine lv_istore_n (lv' := [(3, .int (0 : Int32)), (2, .int (0 : Int32)), (0, .ref (g.2.2.1 k0)), (1, .int a1)]) hx hb dX8_deedsIn_3 rfl hl (by decide) rfl (fun ls hl => ?_)
  have hL_19 : ∀ (n_4 : Nat) (H : Heap) (locs : List Loc) (M_3 : xM) (x2_1 : Int32) (x3_2 : Int32) (ls : Array Slot) , lv_has ls 4 [(0, .ref (g.2.2.1 k0)), (1, .int a1), (2, .int x2_1), (3, .int x3_2)] → x_w g 0 s H locs M_3 → fX8_deedsIn_L4 k0 a1 n_4 M_3 x2_1 x3_2 = some (r, M') → W p l e (x_rm 1 20) s m args below meth c H locs 0 0 Q (F0 m 4 ls []) := by
    intro n_4
    induction n_4 with
    | zero =>
      intro H locs M_3 x2_1 x3_2 ls  hl hw hf
      rw [fX8_deedsIn_L4] at hf
      cases hf
    | succ n_4 ih_5 =>
      intro H locs M_3 x2_1 x3_2 ls  hl hw hf
      rw [fX8_deedsIn_L4] at hf
      refine lv_iload_n hx hb dX8_deedsIn_4 rfl (lv_at hl 3 rfl) ?_
      refine lv_aload_n hx hb dX8_deedsIn_5 rfl (lv_at hl 0 rfl) ?_
      refine fg_X8_21 C hw h0 dX8_deedsIn_6 ?_
      refine lv_icmp_ge (tgt := 42) hx hb dX8_deedsIn_9 (by decide) (fun q_6 => ?_) (fun q_6 => ?_)
      · have hf := x_iP hf q_6
        refine lv_iload_n hx hb dX8_deedsIn_42 rfl (lv_at hl 2 rfl) ?_
        exact ret hf dX8_deedsIn_43 hw
      · have hf := x_iN hf q_6
        refine lv_iload_n hx hb dX8_deedsIn_12 rfl (lv_at hl 2 rfl) ?_
        refine lv_aload_n hx hb dX8_deedsIn_13 rfl (lv_at hl 0 rfl) ?_
        refine fg_X8_41 C hw h0 dX8_deedsIn_14 ?_
        have h_7 : x_is 0 (xr 0 k0 7) 14 := x_tr h0 (by decide) (by decide) rfl (by decide)
        refine lv_iload_n hx hb dX8_deedsIn_17 rfl (lv_at hl 3 rfl) ?_
        obtain ⟨q_8, hf⟩ := x_gE hf
        refine x_rld (t := 2) C hw h_7 (by decide) rfl q_8 dX8_deedsIn_18 ?_
        have h_9 : x_is 0 (xr 0 (xr 0 k0 7) x3_2.toNatClampNeg) 0 := x_ta h_7 (by decide) (x_ilt q_8)
        refine fg_X8_165 C hw h_9 dX8_deedsIn_19 ?_
        refine lv_iload_n hx hb dX8_deedsIn_22 rfl (lv_at hl 1 rfl) ?_
        obtain ⟨k31_11, ek31_11, hf⟩ := x_jE hf
        have hk31_11 : ∀ (H : Heap) (locs : List Loc) (M_12 : xM) (z_10 : Int32) (ls : Array Slot) , lv_has ls 4 [(0, .ref (g.2.2.1 k0)), (1, .int a1), (3, .int x3_2)] → x_w g 0 s H locs M_12 → k31_11 M_12 z_10 = some (r, M') → W p l e (x_rm 1 20) s m args below meth c H locs 0 0 Q (F0 m 31 ls [.int z_10, .int x2_1]) := by
          intro H locs M_12 z_10 ls  hl hw hf
          rw [ek31_11] at hf
          obtain ⟨tv_15, tM_13, c_14, hf⟩ := x_bE hf
          refine x_nI C hw hl.1 [.int z_10] [.int x2_1] (mX10_oneIf l g c_14) lk_X8_152 (by decide) rfl (Nat.le_of_ble_eq_true rfl) ⟨Nat.zero_le _, Nat.zero_le _⟩ dX8_deedsIn_31 (fun v_15 M_13 H locs hN hw => ?_)
          obtain ⟨rfl, rfl⟩ := hN
          refine lv_iadd hx hb dX8_deedsIn_34 ?_
          refine lv_topi (fun x2_16 ex2_16 => ?_)
          have hf := x_lE ex2_16 hf
          refine lv_istore_n (lv' := [(2, .int x2_16), (0, .ref (g.2.2.1 k0)), (1, .int a1), (3, .int x3_2)]) hx hb dX8_deedsIn_35 rfl hl (by decide) rfl (fun ls hl => ?_)
          obtain ⟨x3_17, ex3_17⟩ : ∃ z : Int32, z = (x3_2 + (1 : Int32)) := ⟨_, rfl⟩
          have hf := x_lE ex3_17 hf
          refine lv_iinc (v := x3_17) (lv' := [(3, .int x3_17), (2, .int x2_16), (0, .ref (g.2.2.1 k0)), (1, .int a1)]) hx hb dX8_deedsIn_36 hl (k := 3) rfl (by rw [ex3_17]; rfl) (by decide) rfl (fun ls hl => ?_)
          refine lv_goto (tgt := 4) hx hb dX8_deedsIn_39 (by decide) ?_
          exact ih_5 _ _ _ _ _ _ (lv_sub hl [2, 3, 1, 0] rfl) hw hf
        refine lv_icmp_ne (tgt := 30) hx hb dX8_deedsIn_23 (by decide) (fun q_18 => ?_) (fun q_18 => ?_)
        · have hf := x_iN hf q_18
          refine lv_iconst (v := (0 : Int32)) hx hb dX8_deedsIn_30 (by decide) ?_
          exact hk31_11 _ _ _ _ _ (lv_sub hl [0, 1, 3] rfl) hw hf
        · have hf := x_iP hf q_18
          refine lv_iconst (v := (1 : Int32)) hx hb dX8_deedsIn_26 (by decide) ?_
          refine lv_goto (tgt := 31) hx hb dX8_deedsIn_27 (by decide) ?_
          exact hk31_11 _ _ _ _ _ (lv_sub hl [0, 1, 3] rfl) hw hf
  exact hL_19 _ _ _ _ _ _ _ (lv_sub hl [2, 3, 1, 0] rfl) hw hf
def fX8_flatOf_L4 (k0 : Nat) (a1 : Int32) : Nat → xM → Int32 → Int32 → Option (Int32 × xM)
  | 0, _, _, _ => none
  | n_4 + 1, M_3, x2_1, x3_2 => if (M_3 k0 3) ≤ x3_2 then (some (x2_1, M_3)) else (x_g x3_2 (xn 0 (xr 0 k0 7)) (x_l (fun (M_12 : xM) (x2_10 : Int32) => x_l (x3_2 + (1 : Int32)) fun x3_13 => fX8_flatOf_L4 k0 a1 n_4 M_12 x2_10 x3_13) fun k42_11 => if (M_3 (xr 0 (xr 0 k0 7) x3_2.toNatClampNeg) 4) = a1 then (x_g x3_2 (xn 0 (xr 0 k0 7)) (x_g (M_3 (xr 0 (xr 0 k0 7) x3_2.toNatClampNeg) 0) (xn 0 (xr 0 k0 10)) (x_l (x2_1 + (M_3 (xr 0 k0 10) (M_3 (xr 0 (xr 0 k0 7) x3_2.toNatClampNeg) 0).toNatClampNeg)) fun x2_18 => k42_11 M_3 x2_18))) else (k42_11 M_3 x2_1)))
def fX8_flatOf (M : xM) (k0 : Nat) (a1 : Int32) : Option (Int32 × xM) := fX8_flatOf_L4 k0 a1 x_FU M (0 : Int32) (0 : Int32)
set_option maxRecDepth 100000 in
set_option maxHeartbeats 4000000 in
theorem mX8_flatOf (l : Launch) (g : xG) {k0 : Nat} {a1 : Int32} {r : Int32} {M' : xM} (h0 : x_is 0 k0 8) {M : xM} (hf : fX8_flatOf M k0 a1 = some (r, M')) : x_cI l g 0 yX8_flatOf cX8_flatOf 4 .int 0 0 [.ref (g.2.2.1 k0), .int a1] M (fun v N => v = r ∧ N = M') := by
  refine x_stI RX8 (by decide) rfl (Nat.le_of_ble_eq_true rfl) ?_
  intro p e s m args below meth c Q ls C hw ret hl
  obtain ⟨hx, hb, hml, hown, hB, -⟩ := id C
  have hl : lv_has ls 4 [(0, .ref (g.2.2.1 k0)), (1, .int a1)] := hl
  unfold fX8_flatOf at hf
  refine lv_iconst (v := (0 : Int32)) hx hb dX8_flatOf_0 (by decide) ?_
  refine lv_istore_n (lv' := [(2, .int (0 : Int32)), (0, .ref (g.2.2.1 k0)), (1, .int a1)]) hx hb dX8_flatOf_1 rfl hl (by decide) rfl (fun ls hl => ?_)
  refine lv_iconst (v := (0 : Int32)) hx hb dX8_flatOf_2 (by decide) ?_
  refine lv_istore_n (lv' := [(3, .int (0 : Int32)), (2, .int (0 : Int32)), (0, .ref (g.2.2.1 k0)), (1, .int a1)]) hx hb dX8_flatOf_3 rfl hl (by decide) rfl (fun ls hl => ?_)
  have hL_19 : ∀ (n_4 : Nat) (H : Heap) (locs : List Loc) (M_3 : xM) (x2_1 : Int32) (x3_2 : Int32) (ls : Array Slot) , lv_has ls 4 [(0, .ref (g.2.2.1 k0)), (1, .int a1), (2, .int x2_1), (3, .int x3_2)] → x_w g 0 s H locs M_3 → fX8_flatOf_L4 k0 a1 n_4 M_3 x2_1 x3_2 = some (r, M') → W p l e (x_rm 0 0) s m args below meth c H locs 0 0 Q (F0 m 4 ls []) := by
    intro n_4
    induction n_4 with
    | zero =>
      intro H locs M_3 x2_1 x3_2 ls  hl hw hf
      rw [fX8_flatOf_L4] at hf
      cases hf
    | succ n_4 ih_5 =>
      intro H locs M_3 x2_1 x3_2 ls  hl hw hf
      rw [fX8_flatOf_L4] at hf
      refine lv_iload_n hx hb dX8_flatOf_4 rfl (lv_at hl 3 rfl) ?_
      refine lv_aload_n hx hb dX8_flatOf_5 rfl (lv_at hl 0 rfl) ?_
      refine fg_X8_21 C hw h0 dX8_flatOf_6 ?_
      refine lv_icmp_ge (tgt := 48) hx hb dX8_flatOf_9 (by decide) (fun q_6 => ?_) (fun q_6 => ?_)
      · have hf := x_iP hf q_6
        refine lv_iload_n hx hb dX8_flatOf_48 rfl (lv_at hl 2 rfl) ?_
        exact ret hf dX8_flatOf_49 hw
      · have hf := x_iN hf q_6
        refine lv_aload_n hx hb dX8_flatOf_12 rfl (lv_at hl 0 rfl) ?_
        refine fg_X8_41 C hw h0 dX8_flatOf_13 ?_
        have h_7 : x_is 0 (xr 0 k0 7) 14 := x_tr h0 (by decide) (by decide) rfl (by decide)
        refine lv_iload_n hx hb dX8_flatOf_16 rfl (lv_at hl 3 rfl) ?_
        obtain ⟨q_8, hf⟩ := x_gE hf
        refine x_rld (t := 2) C hw h_7 (by decide) rfl q_8 dX8_flatOf_17 ?_
        have h_9 : x_is 0 (xr 0 (xr 0 k0 7) x3_2.toNatClampNeg) 0 := x_ta h_7 (by decide) (x_ilt q_8)
        refine fg_X8_165 C hw h_9 dX8_flatOf_18 ?_
        refine lv_iload_n hx hb dX8_flatOf_21 rfl (lv_at hl 1 rfl) ?_
        obtain ⟨k42_11, ek42_11, hf⟩ := x_jE hf
        have hk42_11 : ∀ (H : Heap) (locs : List Loc) (M_12 : xM) (x2_10 : Int32) (ls : Array Slot) , lv_has ls 4 [(0, .ref (g.2.2.1 k0)), (1, .int a1), (3, .int x3_2), (2, .int x2_10)] → x_w g 0 s H locs M_12 → k42_11 M_12 x2_10 = some (r, M') → W p l e (x_rm 0 0) s m args below meth c H locs 0 0 Q (F0 m 42 ls []) := by
          intro H locs M_12 x2_10 ls  hl hw hf
          rw [ek42_11] at hf
          obtain ⟨x3_13, ex3_13⟩ : ∃ z : Int32, z = (x3_2 + (1 : Int32)) := ⟨_, rfl⟩
          have hf := x_lE ex3_13 hf
          refine lv_iinc (v := x3_13) (lv' := [(3, .int x3_13), (0, .ref (g.2.2.1 k0)), (1, .int a1), (2, .int x2_10)]) hx hb dX8_flatOf_42 hl (k := 2) rfl (by rw [ex3_13]; rfl) (by decide) rfl (fun ls hl => ?_)
          refine lv_goto (tgt := 4) hx hb dX8_flatOf_45 (by decide) ?_
          exact ih_5 _ _ _ _ _ _ (lv_sub hl [1, 2, 3, 0] rfl) hw hf
        refine lv_icmp_ne (tgt := 42) hx hb dX8_flatOf_22 (by decide) (fun q_14 => ?_) (fun q_14 => ?_)
        · have hf := x_iN hf q_14
          exact hk42_11 _ _ _ _ _ (lv_sub hl [0, 1, 3, 2] rfl) hw hf
        · have hf := x_iP hf q_14
          refine lv_iload_n hx hb dX8_flatOf_25 rfl (lv_at hl 2 rfl) ?_
          refine lv_aload_n hx hb dX8_flatOf_26 rfl (lv_at hl 0 rfl) ?_
          refine fg_X8_63 C hw h0 dX8_flatOf_27 ?_
          have h_15 : x_is 0 (xr 0 k0 10) 12 := x_tr h0 (by decide) (by decide) rfl (by decide)
          refine lv_aload_n hx hb dX8_flatOf_30 rfl (lv_at hl 0 rfl) ?_
          refine fg_X8_41 C hw h0 dX8_flatOf_31 ?_
          refine lv_iload_n hx hb dX8_flatOf_34 rfl (lv_at hl 3 rfl) ?_
          obtain ⟨q_16, hf⟩ := x_gE hf
          refine x_rld (t := 2) C hw h_7 (by decide) rfl q_16 dX8_flatOf_35 ?_
          refine fg_X8_188 C hw h_9 dX8_flatOf_36 ?_
          obtain ⟨q_17, hf⟩ := x_gE hf
          refine x_ald C hw h_15 q_17 dX8_flatOf_39 ?_
          refine lv_iadd hx hb dX8_flatOf_40 ?_
          refine lv_topi (fun x2_18 ex2_18 => ?_)
          have hf := x_lE ex2_18 hf
          refine lv_istore_n (lv' := [(2, .int x2_18), (0, .ref (g.2.2.1 k0)), (1, .int a1), (3, .int x3_2)]) hx hb dX8_flatOf_41 rfl hl (by decide) rfl (fun ls hl => ?_)
          exact hk42_11 _ _ _ _ _ (lv_sub hl [1, 2, 3, 0] rfl) hw hf
  exact hL_19 _ _ _ _ _ _ _ (lv_sub hl [2, 3, 1, 0] rfl) hw hf
def fX8_shareOf (M : xM) (k0 : Nat) (a1 : Int32) (a2 : Int32) : Option (Int32 × xM) := x_g a1 (xn 0 (xr 0 k0 8)) (x_b (fX8_earnings M k0 (M (xr 0 (xr 0 k0 8) a1.toNatClampNeg) 0) (M (xr 0 (xr 0 k0 8) a1.toNatClampNeg) 1) (M (xr 0 (xr 0 k0 8) a1.toNatClampNeg) 1)) fun v_6 M_4 => x_l (if (1 : Int32) < v_6 then v_6 else (1 : Int32)) fun x4_7 => x_dL (x4_7.toInt64) (some (((if (9999999 : Int64) < (((a2.toInt64) * (1000 : Int64)) / (x4_7.toInt64)) then (9999999 : Int64) else (((a2.toInt64) * (1000 : Int64)) / (x4_7.toInt64))).toInt32), M_4)))
set_option maxRecDepth 100000 in
set_option maxHeartbeats 4000000 in
theorem mX8_shareOf (l : Launch) (g : xG) {k0 : Nat} {a1 : Int32} {a2 : Int32} {r : Int32} {M' : xM} (h0 : x_is 0 k0 8) {M : xM} (hf : fX8_shareOf M k0 a1 a2 = some (r, M')) : x_cI l g 0 yX8_shareOf cX8_shareOf 5 .int 4 99 [.ref (g.2.2.1 k0), .int a1, .int a2] M (fun v N => v = r ∧ N = M') := by
  refine x_stI RX8 (by decide) rfl (Nat.le_of_ble_eq_true rfl) ?_
  intro p e s m args below meth c Q ls C hw ret hl
  obtain ⟨hx, hb, hml, hown, hB, -⟩ := id C
  have hl : lv_has ls 5 [(0, .ref (g.2.2.1 k0)), (1, .int a1), (2, .int a2)] := hl
  unfold fX8_shareOf at hf
  refine lv_aload_n hx hb dX8_shareOf_0 rfl (lv_at hl 0 rfl) ?_
  refine fg_X8_47 C hw h0 dX8_shareOf_1 ?_
  have h_1 : x_is 0 (xr 0 k0 8) 16 := x_tr h0 (by decide) (by decide) rfl (by decide)
  refine lv_iload_n hx hb dX8_shareOf_4 rfl (lv_at hl 1 rfl) ?_
  obtain ⟨q_2, hf⟩ := x_gE hf
  refine x_rld (t := 4) C hw h_1 (by decide) rfl q_2 dX8_shareOf_5 ?_
  have h_3 : x_is 0 (xr 0 (xr 0 k0 8) a1.toNatClampNeg) 2 := x_ta h_1 (by decide) (x_ilt q_2)
  refine lv_astore_n (lv' := [(3, .ref (g.2.2.1 (xr 0 (xr 0 k0 8) a1.toNatClampNeg))), (0, .ref (g.2.2.1 k0)), (1, .int a1), (2, .int a2)]) hx hb dX8_shareOf_6 rfl hl (by decide) rfl (fun ls hl => ?_)
  refine lv_iconst (v := (1 : Int32)) hx hb dX8_shareOf_7 (by decide) ?_
  refine lv_aload_n hx hb dX8_shareOf_8 rfl (lv_at hl 1 rfl) ?_
  refine lv_aload_n hx hb dX8_shareOf_9 rfl (lv_at hl 0 rfl) ?_
  refine fg_X8_172 C hw h_3 dX8_shareOf_10 ?_
  refine lv_aload_n hx hb dX8_shareOf_13 rfl (lv_at hl 0 rfl) ?_
  refine fg_X8_171 C hw h_3 dX8_shareOf_14 ?_
  refine lv_aload_n hx hb dX8_shareOf_17 rfl (lv_at hl 0 rfl) ?_
  refine fg_X8_171 C hw h_3 dX8_shareOf_18 ?_
  obtain ⟨tv_6, tM_4, c_5, hf⟩ := x_bE hf
  refine x_vI C hw hl.1 [.int (M (xr 0 (xr 0 k0 8) a1.toNatClampNeg) 0), .int (M (xr 0 (xr 0 k0 8) a1.toNatClampNeg) 1), .int (M (xr 0 (xr 0 k0 8) a1.toNatClampNeg) 1)] [.int (1 : Int32)] (mX8_earnings l g h0 c_5) lk_X8_202 h0 (by decide) rfl (by decide) rfl (Nat.le_of_ble_eq_true rfl) ⟨Nat.zero_le _, Nat.zero_le _⟩ dX8_shareOf_21 (fun v_6 M_4 H locs hN hw => ?_)
  obtain ⟨rfl, rfl⟩ := hN
  refine mm_X8_142 C hl.1 (Nat.le_of_ble_eq_true rfl) (Nat.le_of_ble_eq_true rfl) ⟨Nat.zero_le _, Nat.zero_le _⟩ dX8_shareOf_24 ?_
  refine lv_topi (fun x4_7 ex4_7 => ?_)
  have hf := x_lE ex4_7 hf
  refine lv_istore (lv' := [(4, .int x4_7), (3, .ref (g.2.2.1 (xr 0 (xr 0 k0 8) a1.toNatClampNeg))), (0, .ref (g.2.2.1 k0)), (1, .int a1), (2, .int a2)]) hx hb dX8_shareOf_27 hl (by decide) rfl (fun ls hl => ?_)
  refine lv_iload_n hx hb dX8_shareOf_29 rfl (lv_at hl 4 rfl) ?_
  refine lv_i2l hx hb dX8_shareOf_30 rfl ?_
  refine lv_ldc2 hx hb hown (hB _ mkl_X8_218) dX8_shareOf_31 ?_
  refine lv_lmul hx hb dX8_shareOf_34 ?_
  refine lv_iload hx hb dX8_shareOf_35 (lv_at hl 0 rfl) ?_
  refine lv_i2l hx hb dX8_shareOf_37 rfl ?_
  obtain ⟨q_8, hf⟩ := x_dLE hf
  refine lv_ldiv hx hb dX8_shareOf_38 q_8 ?_
  refine lv_ldc2 hx hb hown (hB _ mkl_X8_220) dX8_shareOf_39 ?_
  refine mm_X8_222 C hl.1 (Nat.le_of_ble_eq_true rfl) (Nat.le_of_ble_eq_true rfl) ⟨Nat.zero_le _, Nat.zero_le _⟩ dX8_shareOf_42 ?_
  refine lv_l2i hx hb dX8_shareOf_45 rfl ?_
  exact ret hf dX8_shareOf_46 hw
def fX8_areAlike_L48 (k0 : Nat) (a1 : Int32) (a2 : Int32) (x4_18 : Int32) (k151_25 : xM → Int32 → Int32 → Option (Int32 × xM)) : Nat → xM → Int32 → Int32 → Int32 → Option (Int32 × xM)
  | 0, _, _, _, _ => none
  | n_33 + 1, M_32, x3_29, x5_30, x6_31 => if (M_32 k0 3) ≤ x6_31 then (k151_25 M_32 x3_29 x5_30) else (x_g x6_31 (xn 0 (xr 0 k0 7)) (x_l (fun (M_42 : xM) (x3_39 : Int32) (x5_40 : Int32) => x_l (x6_31 + (1 : Int32)) fun x6_43 => fX8_areAlike_L48 k0 a1 a2 x4_18 k151_25 n_33 M_42 x3_39 x5_40 x6_43) fun k145_41 => if (M_32 (xr 0 (xr 0 k0 7) x6_31.toNatClampNeg) 0) = x4_18 then (x_g x6_31 (xn 0 (xr 0 k0 7)) (x_l (fun (M_48 : xM) (z_46 : Int32) => x_b (fX10_oneIf M_48 z_46) fun v_51 M_49 => x_g x6_31 (xn 0 (xr 0 k0 7)) (x_l (fun (M_55 : xM) (z_53 : Int32) => x_b (fX10_oneIf M_55 z_53) fun v_58 M_56 => x_l (v_51 - v_58) fun x7_59 => x_l (x5_30 + x7_59) fun x5_60 => x_g x6_31 (xn 0 (xr 0 k0 7)) (x_l (x3_29 + (x7_59 * (M_56 (xr 0 (xr 0 k0 7) x6_31.toNatClampNeg) 3))) fun x3_62 => k145_41 M_56 x3_62 x5_60)) fun k116_54 => if (M_49 (xr 0 (xr 0 k0 7) x6_31.toNatClampNeg) 4) = a2 then (k116_54 M_49 (1 : Int32)) else (k116_54 M_49 (0 : Int32)))) fun k94_47 => if (M_32 (xr 0 (xr 0 k0 7) x6_31.toNatClampNeg) 4) = a1 then (k94_47 M_32 (1 : Int32)) else (k94_47 M_32 (0 : Int32)))) else (k145_41 M_32 x3_29 x5_30)))
def fX8_areAlike_L36 (k0 : Nat) (a1 : Int32) (a2 : Int32) (k164_14 : xM → Int32 → Option (Int32 × xM)) : Nat → xM → Int32 → Int32 → Option (Int32 × xM)
  | 0, _, _, _ => none
  | n_20 + 1, M_19, x3_17, x4_18 => if (4 : Int32) ≤ x4_18 then (k164_14 M_19 x3_17) else (x_l (fun (M_26 : xM) (x3_23 : Int32) (x5_24 : Int32) => if x5_24 = 0 then (x_l (x4_18 + (1 : Int32)) fun x4_28 => fX8_areAlike_L36 k0 a1 a2 k164_14 n_20 M_26 x3_23 x4_28) else (x_z (0 : Int32) (some ((0 : Int32), M_26)))) fun k151_25 => fX8_areAlike_L48 k0 a1 a2 x4_18 k151_25 x_FU M_19 x3_17 (0 : Int32) (0 : Int32))
def fX8_areAlike (M : xM) (k0 : Nat) (a1 : Int32) (a2 : Int32) : Option (Int32 × xM) := x_g a1 (xn 0 (xr 0 k0 8)) (x_b (fX8_youth M k0 (M (xr 0 (xr 0 k0 8) a1.toNatClampNeg) 0)) fun v_6 M_4 => x_g a2 (xn 0 (xr 0 k0 8)) (x_b (fX8_youth M_4 k0 (M_4 (xr 0 (xr 0 k0 8) a2.toNatClampNeg) 0)) fun v_11 M_9 => if v_6 = v_11 then (x_l (fun (M_15 : xM) (x3_13 : Int32) => if (5 : Int32) < (if 0 ≤ x3_13 then x3_13 else 0 - x3_13) then (x_z (0 : Int32) (some ((0 : Int32), M_15))) else (x_z (1 : Int32) (some ((1 : Int32), M_15)))) fun k164_14 => fX8_areAlike_L36 k0 a1 a2 k164_14 x_FU M_9 (0 : Int32) (0 : Int32)) else (x_z (0 : Int32) (some ((0 : Int32), M_9)))))
set_option maxRecDepth 100000 in
set_option maxHeartbeats 4000000 in
theorem mX8_areAlike (l : Launch) (g : xG) {k0 : Nat} {a1 : Int32} {a2 : Int32} {r : Int32} {M' : xM} (h0 : x_is 0 k0 8) {M : xM} (hf : fX8_areAlike M k0 a1 a2 = some (r, M')) : x_cI l g 0 yX8_areAlike cX8_areAlike 8 .boolean 2 42 [.ref (g.2.2.1 k0), .int a1, .int a2] M (fun v N => v = r ∧ N = M') := by
  refine x_stZ RX8 (by decide) rfl (Nat.le_of_ble_eq_true rfl) ?_
  intro p e s m args below meth c Q ls C hw ret hl
  obtain ⟨hx, hb, hml, hown, hB, -⟩ := id C
  have hl : lv_has ls 8 [(0, .ref (g.2.2.1 k0)), (1, .int a1), (2, .int a2)] := hl
  unfold fX8_areAlike at hf
  refine lv_aload_n hx hb dX8_areAlike_0 rfl (lv_at hl 0 rfl) ?_
  refine lv_aload_n hx hb dX8_areAlike_1 rfl (lv_at hl 0 rfl) ?_
  refine fg_X8_47 C hw h0 dX8_areAlike_2 ?_
  have h_1 : x_is 0 (xr 0 k0 8) 16 := x_tr h0 (by decide) (by decide) rfl (by decide)
  refine lv_iload_n hx hb dX8_areAlike_5 rfl (lv_at hl 1 rfl) ?_
  obtain ⟨q_2, hf⟩ := x_gE hf
  refine x_rld (t := 4) C hw h_1 (by decide) rfl q_2 dX8_areAlike_6 ?_
  have h_3 : x_is 0 (xr 0 (xr 0 k0 8) a1.toNatClampNeg) 2 := x_ta h_1 (by decide) (x_ilt q_2)
  refine fg_X8_172 C hw h_3 dX8_areAlike_7 ?_
  obtain ⟨tv_6, tM_4, c_5, hf⟩ := x_bE hf
  refine x_vI C hw hl.1 [.int (M (xr 0 (xr 0 k0 8) a1.toNatClampNeg) 0)] [] (mX8_youth l g h0 c_5) lk_X8_191 h0 (by decide) rfl (by decide) rfl (Nat.le_of_ble_eq_true rfl) ⟨Nat.zero_le _, Nat.zero_le _⟩ dX8_areAlike_10 (fun v_6 M_4 H locs hN hw => ?_)
  obtain ⟨rfl, rfl⟩ := hN
  refine lv_aload_n hx hb dX8_areAlike_13 rfl (lv_at hl 0 rfl) ?_
  refine lv_aload_n hx hb dX8_areAlike_14 rfl (lv_at hl 0 rfl) ?_
  refine fg_X8_47 C hw h0 dX8_areAlike_15 ?_
  refine lv_iload_n hx hb dX8_areAlike_18 rfl (lv_at hl 2 rfl) ?_
  obtain ⟨q_7, hf⟩ := x_gE hf
  refine x_rld (t := 4) C hw h_1 (by decide) rfl q_7 dX8_areAlike_19 ?_
  have h_8 : x_is 0 (xr 0 (xr 0 k0 8) a2.toNatClampNeg) 2 := x_ta h_1 (by decide) (x_ilt q_7)
  refine fg_X8_172 C hw h_8 dX8_areAlike_20 ?_
  obtain ⟨tv_11, tM_9, c_10, hf⟩ := x_bE hf
  refine x_vI C hw hl.1 [.int (M_4 (xr 0 (xr 0 k0 8) a2.toNatClampNeg) 0)] [.int v_6] (mX8_youth l g h0 c_10) lk_X8_191 h0 (by decide) rfl (by decide) rfl (Nat.le_of_ble_eq_true rfl) ⟨Nat.zero_le _, Nat.zero_le _⟩ dX8_areAlike_23 (fun v_11 M_9 H locs hN hw => ?_)
  obtain ⟨rfl, rfl⟩ := hN
  refine lv_icmp_eq (tgt := 31) hx hb dX8_areAlike_26 (by decide) (fun q_12 => ?_) (fun q_12 => ?_)
  · have hf := x_iP hf q_12
    refine lv_iconst (v := (0 : Int32)) hx hb dX8_areAlike_31 (by decide) ?_
    refine lv_istore_n (lv' := [(3, .int (0 : Int32)), (0, .ref (g.2.2.1 k0)), (1, .int a1), (2, .int a2)]) hx hb dX8_areAlike_32 rfl hl (by decide) rfl (fun ls hl => ?_)
    refine lv_iconst (v := (0 : Int32)) hx hb dX8_areAlike_33 (by decide) ?_
    refine lv_istore (lv' := [(4, .int (0 : Int32)), (3, .int (0 : Int32)), (0, .ref (g.2.2.1 k0)), (1, .int a1), (2, .int a2)]) hx hb dX8_areAlike_34 hl (by decide) rfl (fun ls hl => ?_)
    obtain ⟨k164_14, ek164_14, hf⟩ := x_jE hf
    have hk164_14 : ∀ (H : Heap) (locs : List Loc) (M_15 : xM) (x3_13 : Int32) (ls : Array Slot) , lv_has ls 8 [(3, .int x3_13)] → x_w g 0 s H locs M_15 → k164_14 M_15 x3_13 = some (r, M') → W p l e (x_rm 2 42) s m args below meth c H locs 0 0 Q (F0 m 164 ls []) := by
      intro H locs M_15 x3_13 ls  hl hw hf
      rw [ek164_14] at hf
      refine lv_iload_n hx hb dX8_areAlike_164 rfl (lv_at hl 0 rfl) ?_
      refine mm_X8_225 C hl.1 (Nat.le_of_ble_eq_true rfl) (Nat.le_of_ble_eq_true rfl) ⟨Nat.zero_le _, Nat.zero_le _⟩ dX8_areAlike_165 ?_
      refine lv_iconst (v := (5 : Int32)) hx hb dX8_areAlike_168 (by decide) ?_
      refine lv_icmp_gt (tgt := 176) hx hb dX8_areAlike_169 (by decide) (fun q_16 => ?_) (fun q_16 => ?_)
      · have hf := x_iP hf q_16
        refine lv_iconst (v := (0 : Int32)) hx hb dX8_areAlike_176 (by decide) ?_
        exact ret hf dX8_areAlike_177 hw
      · have hf := x_iN hf q_16
        refine lv_iconst (v := (1 : Int32)) hx hb dX8_areAlike_172 (by decide) ?_
        refine lv_goto (tgt := 177) hx hb dX8_areAlike_173 (by decide) ?_
        exact ret hf dX8_areAlike_177 hw
    have hL_66 : ∀ (n_20 : Nat) (H : Heap) (locs : List Loc) (M_19 : xM) (x3_17 : Int32) (x4_18 : Int32) (ls : Array Slot) , lv_has ls 8 [(0, .ref (g.2.2.1 k0)), (1, .int a1), (2, .int a2), (3, .int x3_17), (4, .int x4_18)] → x_w g 0 s H locs M_19 → fX8_areAlike_L36 k0 a1 a2 k164_14 n_20 M_19 x3_17 x4_18 = some (r, M') → W p l e (x_rm 2 42) s m args below meth c H locs 0 0 Q (F0 m 36 ls []) := by
      intro n_20
      induction n_20 with
      | zero =>
        intro H locs M_19 x3_17 x4_18 ls  hl hw hf
        rw [fX8_areAlike_L36] at hf
        cases hf
      | succ n_20 ih_21 =>
        intro H locs M_19 x3_17 x4_18 ls  hl hw hf
        rw [fX8_areAlike_L36] at hf
        refine lv_iload hx hb dX8_areAlike_36 (lv_at hl 4 rfl) ?_
        refine lv_iconst (v := (4 : Int32)) hx hb dX8_areAlike_38 (by decide) ?_
        refine lv_icmp_ge (tgt := 164) hx hb dX8_areAlike_39 (by decide) (fun q_22 => ?_) (fun q_22 => ?_)
        · have hf := x_iP hf q_22
          exact hk164_14 _ _ _ _ _ (lv_sub hl [3] rfl) hw hf
        · have hf := x_iN hf q_22
          refine lv_iconst (v := (0 : Int32)) hx hb dX8_areAlike_42 (by decide) ?_
          refine lv_istore (lv' := [(5, .int (0 : Int32)), (0, .ref (g.2.2.1 k0)), (1, .int a1), (2, .int a2), (3, .int x3_17), (4, .int x4_18)]) hx hb dX8_areAlike_43 hl (by decide) rfl (fun ls hl => ?_)
          refine lv_iconst (v := (0 : Int32)) hx hb dX8_areAlike_45 (by decide) ?_
          refine lv_istore (lv' := [(6, .int (0 : Int32)), (5, .int (0 : Int32)), (0, .ref (g.2.2.1 k0)), (1, .int a1), (2, .int a2), (3, .int x3_17), (4, .int x4_18)]) hx hb dX8_areAlike_46 hl (by decide) rfl (fun ls hl => ?_)
          obtain ⟨k151_25, ek151_25, hf⟩ := x_jE hf
          have hk151_25 : ∀ (H : Heap) (locs : List Loc) (M_26 : xM) (x3_23 : Int32) (x5_24 : Int32) (ls : Array Slot) , lv_has ls 8 [(0, .ref (g.2.2.1 k0)), (1, .int a1), (2, .int a2), (4, .int x4_18), (3, .int x3_23), (5, .int x5_24)] → x_w g 0 s H locs M_26 → k151_25 M_26 x3_23 x5_24 = some (r, M') → W p l e (x_rm 2 42) s m args below meth c H locs 0 0 Q (F0 m 151 ls []) := by
            intro H locs M_26 x3_23 x5_24 ls  hl hw hf
            rw [ek151_25] at hf
            refine lv_iload hx hb dX8_areAlike_151 (lv_at hl 5 rfl) ?_
            refine lv_if_eq (tgt := 158) hx hb dX8_areAlike_153 (by decide) (fun q_27 => ?_) (fun q_27 => ?_)
            · have hf := x_iP hf q_27
              obtain ⟨x4_28, ex4_28⟩ : ∃ z : Int32, z = (x4_18 + (1 : Int32)) := ⟨_, rfl⟩
              have hf := x_lE ex4_28 hf
              refine lv_iinc (v := x4_28) (lv' := [(4, .int x4_28), (0, .ref (g.2.2.1 k0)), (1, .int a1), (2, .int a2), (3, .int x3_23), (5, .int x5_24)]) hx hb dX8_areAlike_158 hl (k := 3) rfl (by rw [ex4_28]; rfl) (by decide) rfl (fun ls hl => ?_)
              refine lv_goto (tgt := 36) hx hb dX8_areAlike_161 (by decide) ?_
              exact ih_21 _ _ _ _ _ _ (lv_sub hl [1, 2, 3, 4, 0] rfl) hw hf
            · have hf := x_iN hf q_27
              refine lv_iconst (v := (0 : Int32)) hx hb dX8_areAlike_156 (by decide) ?_
              exact ret hf dX8_areAlike_157 hw
          have hL_65 : ∀ (n_33 : Nat) (H : Heap) (locs : List Loc) (M_32 : xM) (x3_29 : Int32) (x5_30 : Int32) (x6_31 : Int32) (ls : Array Slot) , lv_has ls 8 [(0, .ref (g.2.2.1 k0)), (1, .int a1), (2, .int a2), (4, .int x4_18), (3, .int x3_29), (5, .int x5_30), (6, .int x6_31)] → x_w g 0 s H locs M_32 → fX8_areAlike_L48 k0 a1 a2 x4_18 k151_25 n_33 M_32 x3_29 x5_30 x6_31 = some (r, M') → W p l e (x_rm 2 42) s m args below meth c H locs 0 0 Q (F0 m 48 ls []) := by
            intro n_33
            induction n_33 with
            | zero =>
              intro H locs M_32 x3_29 x5_30 x6_31 ls  hl hw hf
              rw [fX8_areAlike_L48] at hf
              cases hf
            | succ n_33 ih_34 =>
              intro H locs M_32 x3_29 x5_30 x6_31 ls  hl hw hf
              rw [fX8_areAlike_L48] at hf
              refine lv_iload hx hb dX8_areAlike_48 (lv_at hl 6 rfl) ?_
              refine lv_aload_n hx hb dX8_areAlike_50 rfl (lv_at hl 0 rfl) ?_
              refine fg_X8_21 C hw h0 dX8_areAlike_51 ?_
              refine lv_icmp_ge (tgt := 151) hx hb dX8_areAlike_54 (by decide) (fun q_35 => ?_) (fun q_35 => ?_)
              · have hf := x_iP hf q_35
                exact hk151_25 _ _ _ _ _ _ (lv_sub hl [0, 1, 2, 3, 4, 5] rfl) hw hf
              · have hf := x_iN hf q_35
                refine lv_aload_n hx hb dX8_areAlike_57 rfl (lv_at hl 0 rfl) ?_
                refine fg_X8_41 C hw h0 dX8_areAlike_58 ?_
                have h_36 : x_is 0 (xr 0 k0 7) 14 := x_tr h0 (by decide) (by decide) rfl (by decide)
                refine lv_iload hx hb dX8_areAlike_61 (lv_at hl 6 rfl) ?_
                obtain ⟨q_37, hf⟩ := x_gE hf
                refine x_rld (t := 2) C hw h_36 (by decide) rfl q_37 dX8_areAlike_63 ?_
                have h_38 : x_is 0 (xr 0 (xr 0 k0 7) x6_31.toNatClampNeg) 0 := x_ta h_36 (by decide) (x_ilt q_37)
                refine fg_X8_188 C hw h_38 dX8_areAlike_64 ?_
                refine lv_iload hx hb dX8_areAlike_67 (lv_at hl 3 rfl) ?_
                obtain ⟨k145_41, ek145_41, hf⟩ := x_jE hf
                have hk145_41 : ∀ (H : Heap) (locs : List Loc) (M_42 : xM) (x3_39 : Int32) (x5_40 : Int32) (ls : Array Slot) , lv_has ls 8 [(0, .ref (g.2.2.1 k0)), (1, .int a1), (2, .int a2), (4, .int x4_18), (6, .int x6_31), (3, .int x3_39), (5, .int x5_40)] → x_w g 0 s H locs M_42 → k145_41 M_42 x3_39 x5_40 = some (r, M') → W p l e (x_rm 2 42) s m args below meth c H locs 0 0 Q (F0 m 145 ls []) := by
                  intro H locs M_42 x3_39 x5_40 ls  hl hw hf
                  rw [ek145_41] at hf
                  obtain ⟨x6_43, ex6_43⟩ : ∃ z : Int32, z = (x6_31 + (1 : Int32)) := ⟨_, rfl⟩
                  have hf := x_lE ex6_43 hf
                  refine lv_iinc (v := x6_43) (lv' := [(6, .int x6_43), (0, .ref (g.2.2.1 k0)), (1, .int a1), (2, .int a2), (4, .int x4_18), (3, .int x3_39), (5, .int x5_40)]) hx hb dX8_areAlike_145 hl (k := 4) rfl (by rw [ex6_43]; rfl) (by decide) rfl (fun ls hl => ?_)
                  refine lv_goto (tgt := 48) hx hb dX8_areAlike_148 (by decide) ?_
                  exact ih_34 _ _ _ _ _ _ _ (lv_sub hl [1, 2, 3, 4, 5, 6, 0] rfl) hw hf
                refine lv_icmp_eq (tgt := 75) hx hb dX8_areAlike_69 (by decide) (fun q_44 => ?_) (fun q_44 => ?_)
                · have hf := x_iP hf q_44
                  refine lv_aload_n hx hb dX8_areAlike_75 rfl (lv_at hl 0 rfl) ?_
                  refine fg_X8_41 C hw h0 dX8_areAlike_76 ?_
                  refine lv_iload hx hb dX8_areAlike_79 (lv_at hl 6 rfl) ?_
                  obtain ⟨q_45, hf⟩ := x_gE hf
                  refine x_rld (t := 2) C hw h_36 (by decide) rfl q_45 dX8_areAlike_81 ?_
                  refine fg_X8_165 C hw h_38 dX8_areAlike_82 ?_
                  refine lv_iload_n hx hb dX8_areAlike_85 rfl (lv_at hl 1 rfl) ?_
                  obtain ⟨k94_47, ek94_47, hf⟩ := x_jE hf
                  have hk94_47 : ∀ (H : Heap) (locs : List Loc) (M_48 : xM) (z_46 : Int32) (ls : Array Slot) , lv_has ls 8 [(0, .ref (g.2.2.1 k0)), (1, .int a1), (2, .int a2), (4, .int x4_18), (3, .int x3_29), (5, .int x5_30), (6, .int x6_31)] → x_w g 0 s H locs M_48 → k94_47 M_48 z_46 = some (r, M') → W p l e (x_rm 2 42) s m args below meth c H locs 0 0 Q (F0 m 94 ls [.int z_46]) := by
                    intro H locs M_48 z_46 ls  hl hw hf
                    rw [ek94_47] at hf
                    obtain ⟨tv_51, tM_49, c_50, hf⟩ := x_bE hf
                    refine x_nI C hw hl.1 [.int z_46] [] (mX10_oneIf l g c_50) lk_X8_152 (by decide) rfl (Nat.le_of_ble_eq_true rfl) ⟨Nat.zero_le _, Nat.zero_le _⟩ dX8_areAlike_94 (fun v_51 M_49 H locs hN hw => ?_)
                    obtain ⟨rfl, rfl⟩ := hN
                    refine lv_aload_n hx hb dX8_areAlike_97 rfl (lv_at hl 0 rfl) ?_
                    refine fg_X8_41 C hw h0 dX8_areAlike_98 ?_
                    refine lv_iload hx hb dX8_areAlike_101 (lv_at hl 6 rfl) ?_
                    obtain ⟨q_52, hf⟩ := x_gE hf
                    refine x_rld (t := 2) C hw h_36 (by decide) rfl q_52 dX8_areAlike_103 ?_
                    refine fg_X8_165 C hw h_38 dX8_areAlike_104 ?_
                    refine lv_iload_n hx hb dX8_areAlike_107 rfl (lv_at hl 2 rfl) ?_
                    obtain ⟨k116_54, ek116_54, hf⟩ := x_jE hf
                    have hk116_54 : ∀ (H : Heap) (locs : List Loc) (M_55 : xM) (z_53 : Int32) (ls : Array Slot) , lv_has ls 8 [(0, .ref (g.2.2.1 k0)), (1, .int a1), (2, .int a2), (4, .int x4_18), (3, .int x3_29), (5, .int x5_30), (6, .int x6_31)] → x_w g 0 s H locs M_55 → k116_54 M_55 z_53 = some (r, M') → W p l e (x_rm 2 42) s m args below meth c H locs 0 0 Q (F0 m 116 ls [.int z_53, .int v_51]) := by
                      intro H locs M_55 z_53 ls  hl hw hf
                      rw [ek116_54] at hf
                      obtain ⟨tv_58, tM_56, c_57, hf⟩ := x_bE hf
                      refine x_nI C hw hl.1 [.int z_53] [.int v_51] (mX10_oneIf l g c_57) lk_X8_152 (by decide) rfl (Nat.le_of_ble_eq_true rfl) ⟨Nat.zero_le _, Nat.zero_le _⟩ dX8_areAlike_116 (fun v_58 M_56 H locs hN hw => ?_)
                      obtain ⟨rfl, rfl⟩ := hN
                      refine lv_isub hx hb dX8_areAlike_119 ?_
                      refine lv_topi (fun x7_59 ex7_59 => ?_)
                      have hf := x_lE ex7_59 hf
                      refine lv_istore (lv' := [(7, .int x7_59), (0, .ref (g.2.2.1 k0)), (1, .int a1), (2, .int a2), (4, .int x4_18), (3, .int x3_29), (5, .int x5_30), (6, .int x6_31)]) hx hb dX8_areAlike_120 hl (by decide) rfl (fun ls hl => ?_)
                      refine lv_iload hx hb dX8_areAlike_122 (lv_at hl 6 rfl) ?_
                      refine lv_iload hx hb dX8_areAlike_124 (lv_at hl 0 rfl) ?_
                      refine lv_iadd hx hb dX8_areAlike_126 ?_
                      refine lv_topi (fun x5_60 ex5_60 => ?_)
                      have hf := x_lE ex5_60 hf
                      refine lv_istore (lv' := [(5, .int x5_60), (7, .int x7_59), (0, .ref (g.2.2.1 k0)), (1, .int a1), (2, .int a2), (4, .int x4_18), (3, .int x3_29), (6, .int x6_31)]) hx hb dX8_areAlike_127 hl (by decide) rfl (fun ls hl => ?_)
                      refine lv_iload_n hx hb dX8_areAlike_129 rfl (lv_at hl 6 rfl) ?_
                      refine lv_iload hx hb dX8_areAlike_130 (lv_at hl 1 rfl) ?_
                      refine lv_aload_n hx hb dX8_areAlike_132 rfl (lv_at hl 2 rfl) ?_
                      refine fg_X8_41 C hw h0 dX8_areAlike_133 ?_
                      refine lv_iload hx hb dX8_areAlike_136 (lv_at hl 7 rfl) ?_
                      obtain ⟨q_61, hf⟩ := x_gE hf
                      refine x_rld (t := 2) C hw h_36 (by decide) rfl q_61 dX8_areAlike_138 ?_
                      refine fg_X8_176 C hw h_38 dX8_areAlike_139 ?_
                      refine lv_imul hx hb dX8_areAlike_142 ?_
                      refine lv_iadd hx hb dX8_areAlike_143 ?_
                      refine lv_topi (fun x3_62 ex3_62 => ?_)
                      have hf := x_lE ex3_62 hf
                      refine lv_istore_n (lv' := [(3, .int x3_62), (5, .int x5_60), (7, .int x7_59), (0, .ref (g.2.2.1 k0)), (1, .int a1), (2, .int a2), (4, .int x4_18), (6, .int x6_31)]) hx hb dX8_areAlike_144 rfl hl (by decide) rfl (fun ls hl => ?_)
                      exact hk145_41 _ _ _ _ _ _ (lv_sub hl [3, 4, 5, 6, 7, 0, 1] rfl) hw hf
                    refine lv_icmp_ne (tgt := 115) hx hb dX8_areAlike_108 (by decide) (fun q_63 => ?_) (fun q_63 => ?_)
                    · have hf := x_iN hf q_63
                      refine lv_iconst (v := (0 : Int32)) hx hb dX8_areAlike_115 (by decide) ?_
                      exact hk116_54 _ _ _ _ _ (lv_sub hl [0, 1, 2, 3, 4, 5, 6] rfl) hw hf
                    · have hf := x_iP hf q_63
                      refine lv_iconst (v := (1 : Int32)) hx hb dX8_areAlike_111 (by decide) ?_
                      refine lv_goto (tgt := 116) hx hb dX8_areAlike_112 (by decide) ?_
                      exact hk116_54 _ _ _ _ _ (lv_sub hl [0, 1, 2, 3, 4, 5, 6] rfl) hw hf
                  refine lv_icmp_ne (tgt := 93) hx hb dX8_areAlike_86 (by decide) (fun q_64 => ?_) (fun q_64 => ?_)
                  · have hf := x_iN hf q_64
                    refine lv_iconst (v := (0 : Int32)) hx hb dX8_areAlike_93 (by decide) ?_
                    exact hk94_47 _ _ _ _ _ (lv_sub hl [0, 1, 2, 3, 4, 5, 6] rfl) hw hf
                  · have hf := x_iP hf q_64
                    refine lv_iconst (v := (1 : Int32)) hx hb dX8_areAlike_89 (by decide) ?_
                    refine lv_goto (tgt := 94) hx hb dX8_areAlike_90 (by decide) ?_
                    exact hk94_47 _ _ _ _ _ (lv_sub hl [0, 1, 2, 3, 4, 5, 6] rfl) hw hf
                · have hf := x_iN hf q_44
                  refine lv_goto (tgt := 145) hx hb dX8_areAlike_72 (by decide) ?_
                  exact hk145_41 _ _ _ _ _ _ (lv_sub hl [0, 1, 2, 3, 6, 4, 5] rfl) hw hf
          exact hL_65 _ _ _ _ _ _ _ _ (lv_sub hl [2, 3, 4, 6, 5, 1, 0] rfl) hw hf
    exact hL_66 _ _ _ _ _ _ _ (lv_sub hl [2, 3, 4, 1, 0] rfl) hw hf
  · have hf := x_iN hf q_12
    refine lv_iconst (v := (0 : Int32)) hx hb dX8_areAlike_29 (by decide) ?_
    exact ret hf dX8_areAlike_30 hw
def fX9_addFour_L14 (k0 : Nat) (a1 : Int32) (k49_2 : xM → Option (xM)) : Nat → xM → Int32 → Option (xM)
  | 0, _, _ => none
  | n_7 + 1, M_6, x2_5 => if (4 : Int32) ≤ x2_5 then (k49_2 M_6) else (x_g ((M_6 k0 1) + x2_5) (xn 0 (xr 0 k0 0)) (x_l (x_up M_6 (xr 0 k0 0) ((M_6 k0 1) + x2_5).toNatClampNeg (((a1.toUInt32 >>> (((24 : Int32) - ((8 : Int32) * x2_5)).toUInt32 &&& Int32.toUInt32 31)).toInt32) &&& (255 : Int32))) fun M_12 => x_l (x2_5 + (1 : Int32)) fun x2_13 => fX9_addFour_L14 k0 a1 k49_2 n_7 M_12 x2_13))
def fX9_addFour (M : xM) (k0 : Nat) (a1 : Int32) : Option (xM) := if ((M k0 1) + (4 : Int32)) ≤ (120 : Int32) then (x_l (fun (M_3 : xM) => x_l (x_up M_3 k0 1 ((M_3 k0 1) + (4 : Int32))) fun M_4 => some M_4) fun k49_2 => fX9_addFour_L14 k0 a1 k49_2 x_FU M (0 : Int32)) else (some M)
set_option maxRecDepth 100000 in
set_option maxHeartbeats 4000000 in
theorem mX9_addFour (l : Launch) (g : xG) {k0 : Nat} {a1 : Int32} {M' : xM} (h0 : x_is 0 k0 9) {M : xM} (hf : fX9_addFour M k0 a1 = some M') : x_cV l g 0 yX9_addFour cX9_addFour 3 0 0 [.ref (g.2.2.1 k0), .int a1] M (fun N => N = M') := by
  refine x_stV RX9 (by decide) rfl (Nat.le_of_ble_eq_true rfl) ?_
  intro p e s m args below meth c Q ls C hw ret hl
  obtain ⟨hx, hb, hml, hown, hB, -⟩ := id C
  have hl : lv_has ls 3 [(0, .ref (g.2.2.1 k0)), (1, .int a1)] := hl
  unfold fX9_addFour at hf
  refine lv_aload_n hx hb dX9_addFour_0 rfl (lv_at hl 0 rfl) ?_
  refine fg_X9_15 C hw h0 dX9_addFour_1 ?_
  refine lv_iconst (v := (4 : Int32)) hx hb dX9_addFour_4 (by decide) ?_
  refine lv_iadd hx hb dX9_addFour_5 ?_
  refine lv_bipush (v := (120 : Int32)) hx hb dX9_addFour_6 (by decide) ?_
  refine lv_icmp_le (tgt := 12) hx hb dX9_addFour_8 (by decide) (fun q_1 => ?_) (fun q_1 => ?_)
  · have hf := x_iP hf q_1
    refine lv_iconst (v := (0 : Int32)) hx hb dX9_addFour_12 (by decide) ?_
    refine lv_istore_n (lv' := [(2, .int (0 : Int32)), (0, .ref (g.2.2.1 k0)), (1, .int a1)]) hx hb dX9_addFour_13 rfl hl (by decide) rfl (fun ls hl => ?_)
    obtain ⟨k49_2, ek49_2, hf⟩ := x_jE hf
    have hk49_2 : ∀ (H : Heap) (locs : List Loc) (M_3 : xM)  (ls : Array Slot) , lv_has ls 3 [(0, .ref (g.2.2.1 k0))] → x_w g 0 s H locs M_3 → k49_2 M_3 = some M' → W p l e (x_rm 0 0) s m args below meth c H locs 0 0 Q (F0 m 49 ls []) := by
      intro H locs M_3  ls  hl hw hf
      rw [ek49_2] at hf
      refine lv_aload_n hx hb dX9_addFour_49 rfl (lv_at hl 0 rfl) ?_
      refine lv_dup hx hb dX9_addFour_50 rfl ?_
      refine fg_X9_15 C hw h0 dX9_addFour_51 ?_
      refine lv_iconst (v := (4 : Int32)) hx hb dX9_addFour_54 (by decide) ?_
      refine lv_iadd hx hb dX9_addFour_55 ?_
      refine fp_X9_15 C hw h0 dX9_addFour_56 (fun H locs hw => ?_)
      obtain ⟨M_4, eM_4⟩ : ∃ z, z = (x_up M_3 k0 1 ((M_3 k0 1) + (4 : Int32))) := ⟨_, rfl⟩
      rw [← eM_4] at hw
      have hf := x_lE eM_4 hf
      exact ret hf dX9_addFour_59 hw
    have hL_14 : ∀ (n_7 : Nat) (H : Heap) (locs : List Loc) (M_6 : xM) (x2_5 : Int32) (ls : Array Slot) , lv_has ls 3 [(0, .ref (g.2.2.1 k0)), (1, .int a1), (2, .int x2_5)] → x_w g 0 s H locs M_6 → fX9_addFour_L14 k0 a1 k49_2 n_7 M_6 x2_5 = some M' → W p l e (x_rm 0 0) s m args below meth c H locs 0 0 Q (F0 m 14 ls []) := by
      intro n_7
      induction n_7 with
      | zero =>
        intro H locs M_6 x2_5 ls  hl hw hf
        rw [fX9_addFour_L14] at hf
        cases hf
      | succ n_7 ih_8 =>
        intro H locs M_6 x2_5 ls  hl hw hf
        rw [fX9_addFour_L14] at hf
        refine lv_iload_n hx hb dX9_addFour_14 rfl (lv_at hl 2 rfl) ?_
        refine lv_iconst (v := (4 : Int32)) hx hb dX9_addFour_15 (by decide) ?_
        refine lv_icmp_ge (tgt := 49) hx hb dX9_addFour_16 (by decide) (fun q_9 => ?_) (fun q_9 => ?_)
        · have hf := x_iP hf q_9
          exact hk49_2 _ _ _ _ (lv_sub hl [0] rfl) hw hf
        · have hf := x_iN hf q_9
          refine lv_aload_n hx hb dX9_addFour_19 rfl (lv_at hl 0 rfl) ?_
          refine fg_X9_9 C hw h0 dX9_addFour_20 ?_
          have h_10 : x_is 0 (xr 0 k0 0) 12 := x_tr h0 (by decide) (by decide) rfl (by decide)
          refine lv_aload_n hx hb dX9_addFour_23 rfl (lv_at hl 0 rfl) ?_
          refine fg_X9_15 C hw h0 dX9_addFour_24 ?_
          refine lv_iload_n hx hb dX9_addFour_27 rfl (lv_at hl 2 rfl) ?_
          refine lv_iadd hx hb dX9_addFour_28 ?_
          refine lv_iload_n hx hb dX9_addFour_29 rfl (lv_at hl 1 rfl) ?_
          refine lv_bipush (v := (24 : Int32)) hx hb dX9_addFour_30 (by decide) ?_
          refine lv_bipush (v := (8 : Int32)) hx hb dX9_addFour_32 (by decide) ?_
          refine lv_iload_n hx hb dX9_addFour_34 rfl (lv_at hl 2 rfl) ?_
          refine lv_imul hx hb dX9_addFour_35 ?_
          refine lv_isub hx hb dX9_addFour_36 ?_
          refine lv_iushr hx hb dX9_addFour_37 rfl ?_
          refine lv_sipush (v := (255 : Int32)) hx hb dX9_addFour_38 (by decide) ?_
          refine lv_iand hx hb dX9_addFour_41 ?_
          obtain ⟨q_11, hf⟩ := x_gE hf
          refine x_ast C hw h_10 q_11 dX9_addFour_42 (fun H locs hw => ?_)
          obtain ⟨M_12, eM_12⟩ : ∃ z, z = (x_up M_6 (xr 0 k0 0) ((M_6 k0 1) + x2_5).toNatClampNeg (((a1.toUInt32 >>> (((24 : Int32) - ((8 : Int32) * x2_5)).toUInt32 &&& Int32.toUInt32 31)).toInt32) &&& (255 : Int32))) := ⟨_, rfl⟩
          rw [← eM_12] at hw
          have hf := x_lE eM_12 hf
          obtain ⟨x2_13, ex2_13⟩ : ∃ z : Int32, z = (x2_5 + (1 : Int32)) := ⟨_, rfl⟩
          have hf := x_lE ex2_13 hf
          refine lv_iinc (v := x2_13) (lv' := [(2, .int x2_13), (0, .ref (g.2.2.1 k0)), (1, .int a1)]) hx hb dX9_addFour_43 hl (k := 2) rfl (by rw [ex2_13]; rfl) (by decide) rfl (fun ls hl => ?_)
          refine lv_goto (tgt := 14) hx hb dX9_addFour_46 (by decide) ?_
          exact ih_8 _ _ _ _ _ (lv_sub hl [1, 2, 0] rfl) hw hf
    exact hL_14 _ _ _ _ _ _ (lv_sub hl [1, 2, 0] rfl) hw hf
  · have hf := x_iN hf q_1
    exact ret hf dX9_addFour_11 hw
def fX10_person (M : xM) (k0 : Nat) (a1 : Int32) : Option (Int32 × xM) := x_b (fX10_isWithin M a1 (0 : Int32) (3 : Int32)) fun v_3 M_1 => if v_3 = 0 then (some ((-1000000001 : Int32), M_1)) else (if (M_1 (xr 0 k0 0) 1) < (12 : Int32) then (x_g (M_1 (xr 0 k0 0) 1) (xn 0 (xr 0 (xr 0 k0 0) 5)) (x_v (fX4_begin M_1 (xr 0 (xr 0 (xr 0 k0 0) 5) (M_1 (xr 0 k0 0) 1).toNatClampNeg) a1) fun M_10 => x_l (x_up M_10 (xr 0 k0 0) 1 ((M_10 (xr 0 k0 0) 1) + (1 : Int32))) fun M_12 => some (((M_12 (xr 0 k0 0) 1) - (1 : Int32)), M_12))) else (some ((-1000000003 : Int32), M_1)))
set_option maxRecDepth 100000 in
set_option maxHeartbeats 4000000 in
theorem mX10_person (l : Launch) (g : xG) {k0 : Nat} {a1 : Int32} {r : Int32} {M' : xM} (h0 : x_is 0 k0 10) {M : xM} (hf : fX10_person M k0 a1 = some (r, M')) : x_cI l g 0 yX10_person cX10_person 2 .int 1 22 [.ref (g.2.2.1 k0), .int a1] M (fun v N => v = r ∧ N = M') := by
  refine x_stI RX10 (by decide) rfl (Nat.le_of_ble_eq_true rfl) ?_
  intro p e s m args below meth c Q ls C hw ret hl
  obtain ⟨hx, hb, hml, hown, hB, -⟩ := id C
  have hl : lv_has ls 2 [(0, .ref (g.2.2.1 k0)), (1, .int a1)] := hl
  unfold fX10_person at hf
  refine lv_iload_n hx hb dX10_person_0 rfl (lv_at hl 1 rfl) ?_
  refine lv_iconst (v := (0 : Int32)) hx hb dX10_person_1 (by decide) ?_
  refine lv_iconst (v := (3 : Int32)) hx hb dX10_person_2 (by decide) ?_
  obtain ⟨tv_3, tM_1, c_2, hf⟩ := x_bE hf
  refine x_sI C hw hl.1 [.int a1, .int (0 : Int32), .int (3 : Int32)] [] (mX10_isWithin l g c_2) lk_X10_57 (by decide) rfl (Nat.le_of_ble_eq_true rfl) ⟨Nat.zero_le _, Nat.zero_le _⟩ dX10_person_3 (fun v_3 M_1 H locs hN hw => ?_)
  obtain ⟨rfl, rfl⟩ := hN
  refine lv_if_ne (tgt := 12) hx hb dX10_person_6 (by decide) (fun q_4 => ?_) (fun q_4 => ?_)
  · have hf := x_iN hf q_4
    refine lv_aload_n hx hb dX10_person_12 rfl (lv_at hl 0 rfl) ?_
    refine fg_X10_10 C hw h0 dX10_person_13 ?_
    have h_5 : x_is 0 (xr 0 k0 0) 8 := x_tr h0 (by decide) (by decide) rfl (by decide)
    refine fg_X10_62 C hw h_5 dX10_person_16 ?_
    refine lv_bipush (v := (12 : Int32)) hx hb dX10_person_19 (by decide) ?_
    refine lv_icmp_lt (tgt := 27) hx hb dX10_person_21 (by decide) (fun q_6 => ?_) (fun q_6 => ?_)
    · have hf := x_iP hf q_6
      refine lv_aload_n hx hb dX10_person_27 rfl (lv_at hl 0 rfl) ?_
      refine fg_X10_10 C hw h0 dX10_person_28 ?_
      refine fg_X10_66 C hw h_5 dX10_person_31 ?_
      have h_7 : x_is 0 (xr 0 (xr 0 k0 0) 5) 17 := x_tr h_5 (by decide) (by decide) rfl (by decide)
      refine lv_aload_n hx hb dX10_person_34 rfl (lv_at hl 0 rfl) ?_
      refine fg_X10_10 C hw h0 dX10_person_35 ?_
      refine fg_X10_62 C hw h_5 dX10_person_38 ?_
      obtain ⟨q_8, hf⟩ := x_gE hf
      refine x_rld (t := 5) C hw h_7 (by decide) rfl q_8 dX10_person_41 ?_
      have h_9 : x_is 0 (xr 0 (xr 0 (xr 0 k0 0) 5) (M_1 (xr 0 k0 0) 1).toNatClampNeg) 4 := x_ta h_7 (by decide) (x_ilt q_8)
      refine lv_iload_n hx hb dX10_person_42 rfl (lv_at hl 1 rfl) ?_
      obtain ⟨tM_10, c_11, hf⟩ := x_vE hf
      refine x_vV C hw hl.1 [.int a1] [] (mX4_begin l g h_9 c_11) lk_X10_70 h_9 (by decide) rfl (by decide) rfl (Nat.le_of_ble_eq_true rfl) ⟨Nat.zero_le _, Nat.zero_le _⟩ dX10_person_43 (fun M_10 H locs hN hw => ?_)
      obtain rfl := hN
      refine lv_aload_n hx hb dX10_person_46 rfl (lv_at hl 0 rfl) ?_
      refine fg_X10_10 C hw h0 dX10_person_47 ?_
      refine lv_dup hx hb dX10_person_50 rfl ?_
      refine fg_X10_62 C hw h_5 dX10_person_51 ?_
      refine lv_iconst (v := (1 : Int32)) hx hb dX10_person_54 (by decide) ?_
      refine lv_iadd hx hb dX10_person_55 ?_
      refine fp_X10_62 C hw h_5 dX10_person_56 (fun H locs hw => ?_)
      obtain ⟨M_12, eM_12⟩ : ∃ z, z = (x_up M_10 (xr 0 k0 0) 1 ((M_10 (xr 0 k0 0) 1) + (1 : Int32))) := ⟨_, rfl⟩
      rw [← eM_12] at hw
      have hf := x_lE eM_12 hf
      refine lv_aload_n hx hb dX10_person_59 rfl (lv_at hl 0 rfl) ?_
      refine fg_X10_10 C hw h0 dX10_person_60 ?_
      refine fg_X10_62 C hw h_5 dX10_person_63 ?_
      refine lv_iconst (v := (1 : Int32)) hx hb dX10_person_66 (by decide) ?_
      refine lv_isub hx hb dX10_person_67 ?_
      exact ret hf dX10_person_68 hw
    · have hf := x_iN hf q_6
      refine lv_ldc hx hb hown (hB _ mk_X10_65) dX10_person_24 ?_
      exact ret hf dX10_person_26 hw
  · have hf := x_iP hf q_4
    refine lv_ldc hx hb hown (hB _ mk_X10_61) dX10_person_9 ?_
    exact ret hf dX10_person_11 hw
def fX10_is (M : xM) (k0 : Nat) (a1 : Int32) (a2 : Int32) : Option (Int32 × xM) := x_b (fX8_hasPerson M (xr 0 k0 0) a1) fun v_4 M_2 => if v_4 = 0 then (some ((-1000000001 : Int32), M_2)) else (x_b (fX10_isWithin M_2 a2 (0 : Int32) (3 : Int32)) fun v_8 M_6 => if v_8 = 0 then (some ((-1000000001 : Int32), M_6)) else (x_g a1 (xn 0 (xr 0 (xr 0 k0 0) 5)) (x_b (fX4_isOfKind M_6 (xr 0 (xr 0 (xr 0 k0 0) 5) a1.toNatClampNeg) a2) fun v_15 M_13 => x_b (fX10_oneIf M_13 v_15) fun v_18 M_16 => some (v_18, M_16))))
set_option maxRecDepth 100000 in
set_option maxHeartbeats 4000000 in
theorem mX10_is (l : Launch) (g : xG) {k0 : Nat} {a1 : Int32} {a2 : Int32} {r : Int32} {M' : xM} (h0 : x_is 0 k0 10) {M : xM} (hf : fX10_is M k0 a1 a2 = some (r, M')) : x_cI l g 0 yX10_is cX10_is 3 .int 2 43 [.ref (g.2.2.1 k0), .int a1, .int a2] M (fun v N => v = r ∧ N = M') := by
  refine x_stI RX10 (by decide) rfl (Nat.le_of_ble_eq_true rfl) ?_
  intro p e s m args below meth c Q ls C hw ret hl
  obtain ⟨hx, hb, hml, hown, hB, -⟩ := id C
  have hl : lv_has ls 3 [(0, .ref (g.2.2.1 k0)), (1, .int a1), (2, .int a2)] := hl
  unfold fX10_is at hf
  refine lv_aload_n hx hb dX10_is_0 rfl (lv_at hl 0 rfl) ?_
  refine fg_X10_10 C hw h0 dX10_is_1 ?_
  have h_1 : x_is 0 (xr 0 k0 0) 8 := x_tr h0 (by decide) (by decide) rfl (by decide)
  refine lv_iload_n hx hb dX10_is_4 rfl (lv_at hl 1 rfl) ?_
  obtain ⟨tv_4, tM_2, c_3, hf⟩ := x_bE hf
  refine x_vI C hw hl.1 [.int a1] [] (mX8_hasPerson l g h_1 c_3) lk_X10_76 h_1 (by decide) rfl (by decide) rfl (Nat.le_of_ble_eq_true rfl) ⟨Nat.zero_le _, Nat.zero_le _⟩ dX10_is_5 (fun v_4 M_2 H locs hN hw => ?_)
  obtain ⟨rfl, rfl⟩ := hN
  refine lv_if_eq (tgt := 20) hx hb dX10_is_8 (by decide) (fun q_5 => ?_) (fun q_5 => ?_)
  · have hf := x_iP hf q_5
    refine lv_ldc hx hb hown (hB _ mk_X10_61) dX10_is_20 ?_
    exact ret hf dX10_is_22 hw
  · have hf := x_iN hf q_5
    refine lv_iload_n hx hb dX10_is_11 rfl (lv_at hl 2 rfl) ?_
    refine lv_iconst (v := (0 : Int32)) hx hb dX10_is_12 (by decide) ?_
    refine lv_iconst (v := (3 : Int32)) hx hb dX10_is_13 (by decide) ?_
    obtain ⟨tv_8, tM_6, c_7, hf⟩ := x_bE hf
    refine x_sI C hw hl.1 [.int a2, .int (0 : Int32), .int (3 : Int32)] [] (mX10_isWithin l g c_7) lk_X10_57 (by decide) rfl (Nat.le_of_ble_eq_true rfl) ⟨Nat.zero_le _, Nat.zero_le _⟩ dX10_is_14 (fun v_8 M_6 H locs hN hw => ?_)
    obtain ⟨rfl, rfl⟩ := hN
    refine lv_if_ne (tgt := 23) hx hb dX10_is_17 (by decide) (fun q_9 => ?_) (fun q_9 => ?_)
    · have hf := x_iN hf q_9
      refine lv_aload_n hx hb dX10_is_23 rfl (lv_at hl 0 rfl) ?_
      refine fg_X10_10 C hw h0 dX10_is_24 ?_
      refine fg_X10_66 C hw h_1 dX10_is_27 ?_
      have h_10 : x_is 0 (xr 0 (xr 0 k0 0) 5) 17 := x_tr h_1 (by decide) (by decide) rfl (by decide)
      refine lv_iload_n hx hb dX10_is_30 rfl (lv_at hl 1 rfl) ?_
      obtain ⟨q_11, hf⟩ := x_gE hf
      refine x_rld (t := 5) C hw h_10 (by decide) rfl q_11 dX10_is_31 ?_
      have h_12 : x_is 0 (xr 0 (xr 0 (xr 0 k0 0) 5) a1.toNatClampNeg) 4 := x_ta h_10 (by decide) (x_ilt q_11)
      refine lv_iload_n hx hb dX10_is_32 rfl (lv_at hl 2 rfl) ?_
      obtain ⟨tv_15, tM_13, c_14, hf⟩ := x_bE hf
      refine x_vI C hw hl.1 [.int a2] [] (mX4_isOfKind l g h_12 c_14) lk_X10_80 h_12 (by decide) rfl (by decide) rfl (Nat.le_of_ble_eq_true rfl) ⟨Nat.zero_le _, Nat.zero_le _⟩ dX10_is_33 (fun v_15 M_13 H locs hN hw => ?_)
      obtain ⟨rfl, rfl⟩ := hN
      obtain ⟨tv_18, tM_16, c_17, hf⟩ := x_bE hf
      refine x_sI C hw hl.1 [.int v_15] [] (mX10_oneIf l g c_17) lk_X10_83 (by decide) rfl (Nat.le_of_ble_eq_true rfl) ⟨Nat.zero_le _, Nat.zero_le _⟩ dX10_is_36 (fun v_18 M_16 H locs hN hw => ?_)
      obtain ⟨rfl, rfl⟩ := hN
      exact ret hf dX10_is_39 hw
    · have hf := x_iP hf q_9
      refine lv_ldc hx hb hown (hB _ mk_X10_61) dX10_is_20 ?_
      exact ret hf dX10_is_22 hw
def fX10_couple (M : xM) (k0 : Nat) (a1 : Int32) (a2 : Int32) : Option (Int32 × xM) := x_b (fX8_hasPerson M (xr 0 k0 0) a1) fun v_4 M_2 => if v_4 = 0 then (some ((-1000000001 : Int32), M_2)) else (x_b (fX8_hasPerson M_2 (xr 0 k0 0) a2) fun v_8 M_6 => if v_8 = 0 then (some ((-1000000001 : Int32), M_6)) else (if a1 = a2 then (some ((-1000000001 : Int32), M_6)) else (x_g a1 (xn 0 (xr 0 (xr 0 k0 0) 5)) (x_b (fX4_isCoupled M_6 (xr 0 (xr 0 (xr 0 k0 0) 5) a1.toNatClampNeg)) fun v_16 M_14 => if v_16 = 0 then (x_g a2 (xn 0 (xr 0 (xr 0 k0 0) 5)) (x_b (fX4_isCoupled M_14 (xr 0 (xr 0 (xr 0 k0 0) 5) a2.toNatClampNeg)) fun v_22 M_20 => if v_22 = 0 then (x_g a1 (xn 0 (xr 0 (xr 0 k0 0) 5)) (x_l (x_up M_20 (xr 0 (xr 0 (xr 0 k0 0) 5) a1.toNatClampNeg) 1 a2) fun M_25 => x_g a2 (xn 0 (xr 0 (xr 0 k0 0) 5)) (x_l (x_up M_25 (xr 0 (xr 0 (xr 0 k0 0) 5) a2.toNatClampNeg) 1 a1) fun M_27 => some ((1 : Int32), M_27)))) else (some ((-1000000002 : Int32), M_20)))) else (some ((-1000000002 : Int32), M_14))))))
set_option maxRecDepth 100000 in
set_option maxHeartbeats 4000000 in
theorem mX10_couple (l : Launch) (g : xG) {k0 : Nat} {a1 : Int32} {a2 : Int32} {r : Int32} {M' : xM} (h0 : x_is 0 k0 10) {M : xM} (hf : fX10_couple M k0 a1 a2 = some (r, M')) : x_cI l g 0 yX10_couple cX10_couple 3 .int 2 43 [.ref (g.2.2.1 k0), .int a1, .int a2] M (fun v N => v = r ∧ N = M') := by
  refine x_stI RX10 (by decide) rfl (Nat.le_of_ble_eq_true rfl) ?_
  intro p e s m args below meth c Q ls C hw ret hl
  obtain ⟨hx, hb, hml, hown, hB, -⟩ := id C
  have hl : lv_has ls 3 [(0, .ref (g.2.2.1 k0)), (1, .int a1), (2, .int a2)] := hl
  unfold fX10_couple at hf
  refine lv_aload_n hx hb dX10_couple_0 rfl (lv_at hl 0 rfl) ?_
  refine fg_X10_10 C hw h0 dX10_couple_1 ?_
  have h_1 : x_is 0 (xr 0 k0 0) 8 := x_tr h0 (by decide) (by decide) rfl (by decide)
  refine lv_iload_n hx hb dX10_couple_4 rfl (lv_at hl 1 rfl) ?_
  obtain ⟨tv_4, tM_2, c_3, hf⟩ := x_bE hf
  refine x_vI C hw hl.1 [.int a1] [] (mX8_hasPerson l g h_1 c_3) lk_X10_76 h_1 (by decide) rfl (by decide) rfl (Nat.le_of_ble_eq_true rfl) ⟨Nat.zero_le _, Nat.zero_le _⟩ dX10_couple_5 (fun v_4 M_2 H locs hN hw => ?_)
  obtain ⟨rfl, rfl⟩ := hN
  refine lv_if_eq (tgt := 27) hx hb dX10_couple_8 (by decide) (fun q_5 => ?_) (fun q_5 => ?_)
  · have hf := x_iP hf q_5
    refine lv_ldc hx hb hown (hB _ mk_X10_61) dX10_couple_27 ?_
    exact ret hf dX10_couple_29 hw
  · have hf := x_iN hf q_5
    refine lv_aload_n hx hb dX10_couple_11 rfl (lv_at hl 0 rfl) ?_
    refine fg_X10_10 C hw h0 dX10_couple_12 ?_
    refine lv_iload_n hx hb dX10_couple_15 rfl (lv_at hl 2 rfl) ?_
    obtain ⟨tv_8, tM_6, c_7, hf⟩ := x_bE hf
    refine x_vI C hw hl.1 [.int a2] [] (mX8_hasPerson l g h_1 c_7) lk_X10_76 h_1 (by decide) rfl (by decide) rfl (Nat.le_of_ble_eq_true rfl) ⟨Nat.zero_le _, Nat.zero_le _⟩ dX10_couple_16 (fun v_8 M_6 H locs hN hw => ?_)
    obtain ⟨rfl, rfl⟩ := hN
    refine lv_if_eq (tgt := 27) hx hb dX10_couple_19 (by decide) (fun q_9 => ?_) (fun q_9 => ?_)
    · have hf := x_iP hf q_9
      refine lv_ldc hx hb hown (hB _ mk_X10_61) dX10_couple_27 ?_
      exact ret hf dX10_couple_29 hw
    · have hf := x_iN hf q_9
      refine lv_iload_n hx hb dX10_couple_22 rfl (lv_at hl 1 rfl) ?_
      refine lv_iload_n hx hb dX10_couple_23 rfl (lv_at hl 2 rfl) ?_
      refine lv_icmp_ne (tgt := 30) hx hb dX10_couple_24 (by decide) (fun q_10 => ?_) (fun q_10 => ?_)
      · have hf := x_iN hf q_10
        refine lv_aload_n hx hb dX10_couple_30 rfl (lv_at hl 0 rfl) ?_
        refine fg_X10_10 C hw h0 dX10_couple_31 ?_
        refine fg_X10_66 C hw h_1 dX10_couple_34 ?_
        have h_11 : x_is 0 (xr 0 (xr 0 k0 0) 5) 17 := x_tr h_1 (by decide) (by decide) rfl (by decide)
        refine lv_iload_n hx hb dX10_couple_37 rfl (lv_at hl 1 rfl) ?_
        obtain ⟨q_12, hf⟩ := x_gE hf
        refine x_rld (t := 5) C hw h_11 (by decide) rfl q_12 dX10_couple_38 ?_
        have h_13 : x_is 0 (xr 0 (xr 0 (xr 0 k0 0) 5) a1.toNatClampNeg) 4 := x_ta h_11 (by decide) (x_ilt q_12)
        obtain ⟨tv_16, tM_14, c_15, hf⟩ := x_bE hf
        refine x_vI C hw hl.1 [] [] (mX4_isCoupled l g h_13 c_15) lk_X10_87 h_13 (by decide) rfl (by decide) rfl (Nat.le_of_ble_eq_true rfl) ⟨Nat.zero_le _, Nat.zero_le _⟩ dX10_couple_39 (fun v_16 M_14 H locs hN hw => ?_)
        obtain ⟨rfl, rfl⟩ := hN
        refine lv_if_ne (tgt := 60) hx hb dX10_couple_42 (by decide) (fun q_17 => ?_) (fun q_17 => ?_)
        · have hf := x_iN hf q_17
          refine lv_ldc hx hb hown (hB _ mk_X10_91) dX10_couple_60 ?_
          exact ret hf dX10_couple_62 hw
        · have hf := x_iP hf q_17
          refine lv_aload_n hx hb dX10_couple_45 rfl (lv_at hl 0 rfl) ?_
          refine fg_X10_10 C hw h0 dX10_couple_46 ?_
          refine fg_X10_66 C hw h_1 dX10_couple_49 ?_
          refine lv_iload_n hx hb dX10_couple_52 rfl (lv_at hl 2 rfl) ?_
          obtain ⟨q_18, hf⟩ := x_gE hf
          refine x_rld (t := 5) C hw h_11 (by decide) rfl q_18 dX10_couple_53 ?_
          have h_19 : x_is 0 (xr 0 (xr 0 (xr 0 k0 0) 5) a2.toNatClampNeg) 4 := x_ta h_11 (by decide) (x_ilt q_18)
          obtain ⟨tv_22, tM_20, c_21, hf⟩ := x_bE hf
          refine x_vI C hw hl.1 [] [] (mX4_isCoupled l g h_19 c_21) lk_X10_87 h_19 (by decide) rfl (by decide) rfl (Nat.le_of_ble_eq_true rfl) ⟨Nat.zero_le _, Nat.zero_le _⟩ dX10_couple_54 (fun v_22 M_20 H locs hN hw => ?_)
          obtain ⟨rfl, rfl⟩ := hN
          refine lv_if_eq (tgt := 63) hx hb dX10_couple_57 (by decide) (fun q_23 => ?_) (fun q_23 => ?_)
          · have hf := x_iP hf q_23
            refine lv_aload_n hx hb dX10_couple_63 rfl (lv_at hl 0 rfl) ?_
            refine fg_X10_10 C hw h0 dX10_couple_64 ?_
            refine fg_X10_66 C hw h_1 dX10_couple_67 ?_
            refine lv_iload_n hx hb dX10_couple_70 rfl (lv_at hl 1 rfl) ?_
            obtain ⟨q_24, hf⟩ := x_gE hf
            refine x_rld (t := 5) C hw h_11 (by decide) rfl q_24 dX10_couple_71 ?_
            refine lv_iload_n hx hb dX10_couple_72 rfl (lv_at hl 2 rfl) ?_
            refine fp_X10_92 C hw h_13 dX10_couple_73 (fun H locs hw => ?_)
            obtain ⟨M_25, eM_25⟩ : ∃ z, z = (x_up M_20 (xr 0 (xr 0 (xr 0 k0 0) 5) a1.toNatClampNeg) 1 a2) := ⟨_, rfl⟩
            rw [← eM_25] at hw
            have hf := x_lE eM_25 hf
            refine lv_aload_n hx hb dX10_couple_76 rfl (lv_at hl 0 rfl) ?_
            refine fg_X10_10 C hw h0 dX10_couple_77 ?_
            refine fg_X10_66 C hw h_1 dX10_couple_80 ?_
            refine lv_iload_n hx hb dX10_couple_83 rfl (lv_at hl 2 rfl) ?_
            obtain ⟨q_26, hf⟩ := x_gE hf
            refine x_rld (t := 5) C hw h_11 (by decide) rfl q_26 dX10_couple_84 ?_
            refine lv_iload_n hx hb dX10_couple_85 rfl (lv_at hl 1 rfl) ?_
            refine fp_X10_92 C hw h_19 dX10_couple_86 (fun H locs hw => ?_)
            obtain ⟨M_27, eM_27⟩ : ∃ z, z = (x_up M_25 (xr 0 (xr 0 (xr 0 k0 0) 5) a2.toNatClampNeg) 1 a1) := ⟨_, rfl⟩
            rw [← eM_27] at hw
            have hf := x_lE eM_27 hf
            refine lv_iconst (v := (1 : Int32)) hx hb dX10_couple_89 (by decide) ?_
            exact ret hf dX10_couple_90 hw
          · have hf := x_iN hf q_23
            refine lv_ldc hx hb hown (hB _ mk_X10_91) dX10_couple_60 ?_
            exact ret hf dX10_couple_62 hw
      · have hf := x_iP hf q_10
        refine lv_ldc hx hb hown (hB _ mk_X10_61) dX10_couple_27 ?_
        exact ret hf dX10_couple_29 hw
def fX10_part (M : xM) (k0 : Nat) (a1 : Int32) : Option (Int32 × xM) := x_b (fX8_hasPerson M (xr 0 k0 0) a1) fun v_4 M_2 => if v_4 = 0 then (some ((-1000000001 : Int32), M_2)) else (x_g a1 (xn 0 (xr 0 (xr 0 k0 0) 5)) (x_l (M_2 (xr 0 (xr 0 (xr 0 k0 0) 5) a1.toNatClampNeg) 1) fun x2_9 => x_b (fX8_hasPerson M_2 (xr 0 k0 0) x2_9) fun v_12 M_10 => if v_12 = 0 then (some ((-1000000002 : Int32), M_10)) else (x_g a1 (xn 0 (xr 0 (xr 0 k0 0) 5)) (x_l (x_up M_10 (xr 0 (xr 0 (xr 0 k0 0) 5) a1.toNatClampNeg) 1 (-1 : Int32)) fun M_15 => x_g x2_9 (xn 0 (xr 0 (xr 0 k0 0) 5)) (x_l (x_up M_15 (xr 0 (xr 0 (xr 0 k0 0) 5) x2_9.toNatClampNeg) 1 (-1 : Int32)) fun M_18 => some (x2_9, M_18))))))
set_option maxRecDepth 100000 in
set_option maxHeartbeats 4000000 in
theorem mX10_part (l : Launch) (g : xG) {k0 : Nat} {a1 : Int32} {r : Int32} {M' : xM} (h0 : x_is 0 k0 10) {M : xM} (hf : fX10_part M k0 a1 = some (r, M')) : x_cI l g 0 yX10_part cX10_part 3 .int 2 43 [.ref (g.2.2.1 k0), .int a1] M (fun v N => v = r ∧ N = M') := by
  refine x_stI RX10 (by decide) rfl (Nat.le_of_ble_eq_true rfl) ?_
  intro p e s m args below meth c Q ls C hw ret hl
  obtain ⟨hx, hb, hml, hown, hB, -⟩ := id C
  have hl : lv_has ls 3 [(0, .ref (g.2.2.1 k0)), (1, .int a1)] := hl
  unfold fX10_part at hf
  refine lv_aload_n hx hb dX10_part_0 rfl (lv_at hl 0 rfl) ?_
  refine fg_X10_10 C hw h0 dX10_part_1 ?_
  have h_1 : x_is 0 (xr 0 k0 0) 8 := x_tr h0 (by decide) (by decide) rfl (by decide)
  refine lv_iload_n hx hb dX10_part_4 rfl (lv_at hl 1 rfl) ?_
  obtain ⟨tv_4, tM_2, c_3, hf⟩ := x_bE hf
  refine x_vI C hw hl.1 [.int a1] [] (mX8_hasPerson l g h_1 c_3) lk_X10_76 h_1 (by decide) rfl (by decide) rfl (Nat.le_of_ble_eq_true rfl) ⟨Nat.zero_le _, Nat.zero_le _⟩ dX10_part_5 (fun v_4 M_2 H locs hN hw => ?_)
  obtain ⟨rfl, rfl⟩ := hN
  refine lv_if_ne (tgt := 14) hx hb dX10_part_8 (by decide) (fun q_5 => ?_) (fun q_5 => ?_)
  · have hf := x_iN hf q_5
    refine lv_aload_n hx hb dX10_part_14 rfl (lv_at hl 0 rfl) ?_
    refine fg_X10_10 C hw h0 dX10_part_15 ?_
    refine fg_X10_66 C hw h_1 dX10_part_18 ?_
    have h_6 : x_is 0 (xr 0 (xr 0 k0 0) 5) 17 := x_tr h_1 (by decide) (by decide) rfl (by decide)
    refine lv_iload_n hx hb dX10_part_21 rfl (lv_at hl 1 rfl) ?_
    obtain ⟨q_7, hf⟩ := x_gE hf
    refine x_rld (t := 5) C hw h_6 (by decide) rfl q_7 dX10_part_22 ?_
    have h_8 : x_is 0 (xr 0 (xr 0 (xr 0 k0 0) 5) a1.toNatClampNeg) 4 := x_ta h_6 (by decide) (x_ilt q_7)
    refine fg_X10_92 C hw h_8 dX10_part_23 ?_
    refine lv_topi (fun x2_9 ex2_9 => ?_)
    have hf := x_lE ex2_9 hf
    refine lv_istore_n (lv' := [(2, .int x2_9), (0, .ref (g.2.2.1 k0)), (1, .int a1)]) hx hb dX10_part_26 rfl hl (by decide) rfl (fun ls hl => ?_)
    refine lv_aload_n hx hb dX10_part_27 rfl (lv_at hl 1 rfl) ?_
    refine fg_X10_10 C hw h0 dX10_part_28 ?_
    refine lv_iload_n hx hb dX10_part_31 rfl (lv_at hl 0 rfl) ?_
    obtain ⟨tv_12, tM_10, c_11, hf⟩ := x_bE hf
    refine x_vI C hw hl.1 [.int x2_9] [] (mX8_hasPerson l g h_1 c_11) lk_X10_76 h_1 (by decide) rfl (by decide) rfl (Nat.le_of_ble_eq_true rfl) ⟨Nat.zero_le _, Nat.zero_le _⟩ dX10_part_32 (fun v_12 M_10 H locs hN hw => ?_)
    obtain ⟨rfl, rfl⟩ := hN
    refine lv_if_ne (tgt := 41) hx hb dX10_part_35 (by decide) (fun q_13 => ?_) (fun q_13 => ?_)
    · have hf := x_iN hf q_13
      refine lv_aload_n hx hb dX10_part_41 rfl (lv_at hl 1 rfl) ?_
      refine fg_X10_10 C hw h0 dX10_part_42 ?_
      refine fg_X10_66 C hw h_1 dX10_part_45 ?_
      refine lv_iload_n hx hb dX10_part_48 rfl (lv_at hl 2 rfl) ?_
      obtain ⟨q_14, hf⟩ := x_gE hf
      refine x_rld (t := 5) C hw h_6 (by decide) rfl q_14 dX10_part_49 ?_
      refine lv_iconst (v := (-1 : Int32)) hx hb dX10_part_50 (by decide) ?_
      refine fp_X10_92 C hw h_8 dX10_part_51 (fun H locs hw => ?_)
      obtain ⟨M_15, eM_15⟩ : ∃ z, z = (x_up M_10 (xr 0 (xr 0 (xr 0 k0 0) 5) a1.toNatClampNeg) 1 (-1 : Int32)) := ⟨_, rfl⟩
      rw [← eM_15] at hw
      have hf := x_lE eM_15 hf
      refine lv_aload_n hx hb dX10_part_54 rfl (lv_at hl 1 rfl) ?_
      refine fg_X10_10 C hw h0 dX10_part_55 ?_
      refine fg_X10_66 C hw h_1 dX10_part_58 ?_
      refine lv_iload_n hx hb dX10_part_61 rfl (lv_at hl 0 rfl) ?_
      obtain ⟨q_16, hf⟩ := x_gE hf
      refine x_rld (t := 5) C hw h_6 (by decide) rfl q_16 dX10_part_62 ?_
      have h_17 : x_is 0 (xr 0 (xr 0 (xr 0 k0 0) 5) x2_9.toNatClampNeg) 4 := x_ta h_6 (by decide) (x_ilt q_16)
      refine lv_iconst (v := (-1 : Int32)) hx hb dX10_part_63 (by decide) ?_
      refine fp_X10_92 C hw h_17 dX10_part_64 (fun H locs hw => ?_)
      obtain ⟨M_18, eM_18⟩ : ∃ z, z = (x_up M_15 (xr 0 (xr 0 (xr 0 k0 0) 5) x2_9.toNatClampNeg) 1 (-1 : Int32)) := ⟨_, rfl⟩
      rw [← eM_18] at hw
      have hf := x_lE eM_18 hf
      refine lv_iload_n hx hb dX10_part_67 rfl (lv_at hl 0 rfl) ?_
      exact ret hf dX10_part_68 hw
    · have hf := x_iP hf q_13
      refine lv_ldc hx hb hown (hB _ mk_X10_91) dX10_part_38 ?_
      exact ret hf dX10_part_40 hw
  · have hf := x_iP hf q_5
    refine lv_ldc hx hb hown (hB _ mk_X10_61) dX10_part_11 ?_
    exact ret hf dX10_part_13 hw
def fX10_fact (M : xM) (k0 : Nat) (a1 : Int32) (a2 : Int32) (a3 : Int32) (a4 : Int32) (a5 : Int32) : Option (Int32 × xM) := x_b (fX8_hasPerson M (xr 0 k0 0) a1) fun v_4 M_2 => if v_4 = 0 then (some ((-1000000001 : Int32), M_2)) else (x_b (fX10_isWithin M_2 a2 (0 : Int32) (3 : Int32)) fun v_8 M_6 => if v_8 = 0 then (some ((-1000000001 : Int32), M_6)) else (x_b (fX10_isWithin M_6 a3 (0 : Int32) (1 : Int32)) fun v_12 M_10 => if v_12 = 0 then (some ((-1000000001 : Int32), M_10)) else (x_l (fun (M_15 : xM) => x_l (fun (M_18 : xM) (z_16 : Int32) => x_b (fX10_isWithin M_18 a4 (0 : Int32) z_16) fun v_21 M_19 => if v_21 = 0 then (some ((-1000000001 : Int32), M_19)) else (x_b (fX10_isWithin M_19 a5 (0 : Int32) (3000 : Int32)) fun v_25 M_23 => if v_25 = 0 then (some ((-1000000001 : Int32), M_23)) else (if (M_23 (xr 0 k0 0) 2) < (96 : Int32) then (x_g (M_23 (xr 0 k0 0) 2) (xn 0 (xr 0 (xr 0 k0 0) 6)) (x_v (fX1_begin M_23 (xr 0 (xr 0 (xr 0 k0 0) 6) (M_23 (xr 0 k0 0) 2).toNatClampNeg) a1 a2 a3 a4 a5) fun M_31 => x_l (x_up M_31 (xr 0 (xr 0 (xr 0 k0 0) 6) (M_23 (xr 0 k0 0) 2).toNatClampNeg) 5 (M_31 (xr 0 k0 0) 0)) fun M_33 => x_l (x_up M_33 (xr 0 k0 0) 2 ((M_33 (xr 0 k0 0) 2) + (1 : Int32))) fun M_34 => some ((M_34 (xr 0 k0 0) 2), M_34))) else (some ((-1000000003 : Int32), M_23))))) fun k65_17 => if a2 = (1 : Int32) then (k65_17 M_15 (9 : Int32)) else (k65_17 M_15 (99999 : Int32))) fun k50_14 => if a3 = (1 : Int32) then (if a2 = (1 : Int32) then (some ((-1000000001 : Int32), M_10)) else (if a2 = (3 : Int32) then (some ((-1000000001 : Int32), M_10)) else (k50_14 M_10))) else (k50_14 M_10))))
set_option maxRecDepth 100000 in
set_option maxHeartbeats 4000000 in
theorem mX10_fact (l : Launch) (g : xG) {k0 : Nat} {a1 : Int32} {a2 : Int32} {a3 : Int32} {a4 : Int32} {a5 : Int32} {r : Int32} {M' : xM} (h0 : x_is 0 k0 10) {M : xM} (hf : fX10_fact M k0 a1 a2 a3 a4 a5 = some (r, M')) : x_cI l g 0 yX10_fact cX10_fact 7 .int 2 43 [.ref (g.2.2.1 k0), .int a1, .int a2, .int a3, .int a4, .int a5] M (fun v N => v = r ∧ N = M') := by
  refine x_stI RX10 (by decide) rfl (Nat.le_of_ble_eq_true rfl) ?_
  intro p e s m args below meth c Q ls C hw ret hl
  obtain ⟨hx, hb, hml, hown, hB, -⟩ := id C
  have hl : lv_has ls 7 [(0, .ref (g.2.2.1 k0)), (1, .int a1), (2, .int a2), (3, .int a3), (4, .int a4), (5, .int a5)] := hl
  unfold fX10_fact at hf
  refine lv_aload_n hx hb dX10_fact_0 rfl (lv_at hl 0 rfl) ?_
  refine fg_X10_10 C hw h0 dX10_fact_1 ?_
  have h_1 : x_is 0 (xr 0 k0 0) 8 := x_tr h0 (by decide) (by decide) rfl (by decide)
  refine lv_iload_n hx hb dX10_fact_4 rfl (lv_at hl 1 rfl) ?_
  obtain ⟨tv_4, tM_2, c_3, hf⟩ := x_bE hf
  refine x_vI C hw hl.1 [.int a1] [] (mX8_hasPerson l g h_1 c_3) lk_X10_76 h_1 (by decide) rfl (by decide) rfl (Nat.le_of_ble_eq_true rfl) ⟨Nat.zero_le _, Nat.zero_le _⟩ dX10_fact_5 (fun v_4 M_2 H locs hN hw => ?_)
  obtain ⟨rfl, rfl⟩ := hN
  refine lv_if_eq (tgt := 29) hx hb dX10_fact_8 (by decide) (fun q_5 => ?_) (fun q_5 => ?_)
  · have hf := x_iP hf q_5
    refine lv_ldc hx hb hown (hB _ mk_X10_61) dX10_fact_29 ?_
    exact ret hf dX10_fact_31 hw
  · have hf := x_iN hf q_5
    refine lv_iload_n hx hb dX10_fact_11 rfl (lv_at hl 2 rfl) ?_
    refine lv_iconst (v := (0 : Int32)) hx hb dX10_fact_12 (by decide) ?_
    refine lv_iconst (v := (3 : Int32)) hx hb dX10_fact_13 (by decide) ?_
    obtain ⟨tv_8, tM_6, c_7, hf⟩ := x_bE hf
    refine x_sI C hw hl.1 [.int a2, .int (0 : Int32), .int (3 : Int32)] [] (mX10_isWithin l g c_7) lk_X10_57 (by decide) rfl (Nat.le_of_ble_eq_true rfl) ⟨Nat.zero_le _, Nat.zero_le _⟩ dX10_fact_14 (fun v_8 M_6 H locs hN hw => ?_)
    obtain ⟨rfl, rfl⟩ := hN
    refine lv_if_eq (tgt := 29) hx hb dX10_fact_17 (by decide) (fun q_9 => ?_) (fun q_9 => ?_)
    · have hf := x_iP hf q_9
      refine lv_ldc hx hb hown (hB _ mk_X10_61) dX10_fact_29 ?_
      exact ret hf dX10_fact_31 hw
    · have hf := x_iN hf q_9
      refine lv_iload_n hx hb dX10_fact_20 rfl (lv_at hl 3 rfl) ?_
      refine lv_iconst (v := (0 : Int32)) hx hb dX10_fact_21 (by decide) ?_
      refine lv_iconst (v := (1 : Int32)) hx hb dX10_fact_22 (by decide) ?_
      obtain ⟨tv_12, tM_10, c_11, hf⟩ := x_bE hf
      refine x_sI C hw hl.1 [.int a3, .int (0 : Int32), .int (1 : Int32)] [] (mX10_isWithin l g c_11) lk_X10_57 (by decide) rfl (Nat.le_of_ble_eq_true rfl) ⟨Nat.zero_le _, Nat.zero_le _⟩ dX10_fact_23 (fun v_12 M_10 H locs hN hw => ?_)
      obtain ⟨rfl, rfl⟩ := hN
      refine lv_if_ne (tgt := 32) hx hb dX10_fact_26 (by decide) (fun q_13 => ?_) (fun q_13 => ?_)
      · have hf := x_iN hf q_13
        refine lv_iload_n hx hb dX10_fact_32 rfl (lv_at hl 3 rfl) ?_
        refine lv_iconst (v := (1 : Int32)) hx hb dX10_fact_33 (by decide) ?_
        obtain ⟨k50_14, ek50_14, hf⟩ := x_jE hf
        have hk50_14 : ∀ (H : Heap) (locs : List Loc) (M_15 : xM)  (ls : Array Slot) , lv_has ls 7 [(0, .ref (g.2.2.1 k0)), (1, .int a1), (2, .int a2), (3, .int a3), (4, .int a4), (5, .int a5)] → x_w g 0 s H locs M_15 → k50_14 M_15 = some (r, M') → W p l e (x_rm 2 43) s m args below meth c H locs 0 0 Q (F0 m 50 ls []) := by
          intro H locs M_15  ls  hl hw hf
          rw [ek50_14] at hf
          refine lv_iload hx hb dX10_fact_50 (lv_at hl 4 rfl) ?_
          refine lv_iconst (v := (0 : Int32)) hx hb dX10_fact_52 (by decide) ?_
          refine lv_iload_n hx hb dX10_fact_53 rfl (lv_at hl 2 rfl) ?_
          refine lv_iconst (v := (1 : Int32)) hx hb dX10_fact_54 (by decide) ?_
          obtain ⟨k65_17, ek65_17, hf⟩ := x_jE hf
          have hk65_17 : ∀ (H : Heap) (locs : List Loc) (M_18 : xM) (z_16 : Int32) (ls : Array Slot) , lv_has ls 7 [(0, .ref (g.2.2.1 k0)), (1, .int a1), (2, .int a2), (3, .int a3), (4, .int a4), (5, .int a5)] → x_w g 0 s H locs M_18 → k65_17 M_18 z_16 = some (r, M') → W p l e (x_rm 2 43) s m args below meth c H locs 0 0 Q (F0 m 65 ls [.int z_16, .int (0 : Int32), .int a4]) := by
            intro H locs M_18 z_16 ls  hl hw hf
            rw [ek65_17] at hf
            obtain ⟨tv_21, tM_19, c_20, hf⟩ := x_bE hf
            refine x_sI C hw hl.1 [.int a4, .int (0 : Int32), .int z_16] [] (mX10_isWithin l g c_20) lk_X10_57 (by decide) rfl (Nat.le_of_ble_eq_true rfl) ⟨Nat.zero_le _, Nat.zero_le _⟩ dX10_fact_65 (fun v_21 M_19 H locs hN hw => ?_)
            obtain ⟨rfl, rfl⟩ := hN
            refine lv_if_eq (tgt := 83) hx hb dX10_fact_68 (by decide) (fun q_22 => ?_) (fun q_22 => ?_)
            · have hf := x_iP hf q_22
              refine lv_ldc hx hb hown (hB _ mk_X10_61) dX10_fact_83 ?_
              exact ret hf dX10_fact_85 hw
            · have hf := x_iN hf q_22
              refine lv_iload hx hb dX10_fact_71 (lv_at hl 5 rfl) ?_
              refine lv_iconst (v := (0 : Int32)) hx hb dX10_fact_73 (by decide) ?_
              refine lv_sipush (v := (3000 : Int32)) hx hb dX10_fact_74 (by decide) ?_
              obtain ⟨tv_25, tM_23, c_24, hf⟩ := x_bE hf
              refine x_sI C hw hl.1 [.int a5, .int (0 : Int32), .int (3000 : Int32)] [] (mX10_isWithin l g c_24) lk_X10_57 (by decide) rfl (Nat.le_of_ble_eq_true rfl) ⟨Nat.zero_le _, Nat.zero_le _⟩ dX10_fact_77 (fun v_25 M_23 H locs hN hw => ?_)
              obtain ⟨rfl, rfl⟩ := hN
              refine lv_if_ne (tgt := 86) hx hb dX10_fact_80 (by decide) (fun q_26 => ?_) (fun q_26 => ?_)
              · have hf := x_iN hf q_26
                refine lv_aload_n hx hb dX10_fact_86 rfl (lv_at hl 0 rfl) ?_
                refine fg_X10_10 C hw h0 dX10_fact_87 ?_
                refine fg_X10_96 C hw h_1 dX10_fact_90 ?_
                refine lv_bipush (v := (96 : Int32)) hx hb dX10_fact_93 (by decide) ?_
                refine lv_icmp_lt (tgt := 101) hx hb dX10_fact_95 (by decide) (fun q_27 => ?_) (fun q_27 => ?_)
                · have hf := x_iP hf q_27
                  refine lv_aload_n hx hb dX10_fact_101 rfl (lv_at hl 0 rfl) ?_
                  refine fg_X10_10 C hw h0 dX10_fact_102 ?_
                  refine fg_X10_99 C hw h_1 dX10_fact_105 ?_
                  have h_28 : x_is 0 (xr 0 (xr 0 k0 0) 6) 15 := x_tr h_1 (by decide) (by decide) rfl (by decide)
                  refine lv_aload_n hx hb dX10_fact_108 rfl (lv_at hl 0 rfl) ?_
                  refine fg_X10_10 C hw h0 dX10_fact_109 ?_
                  refine fg_X10_96 C hw h_1 dX10_fact_112 ?_
                  obtain ⟨q_29, hf⟩ := x_gE hf
                  refine x_rld (t := 3) C hw h_28 (by decide) rfl q_29 dX10_fact_115 ?_
                  have h_30 : x_is 0 (xr 0 (xr 0 (xr 0 k0 0) 6) (M_23 (xr 0 k0 0) 2).toNatClampNeg) 1 := x_ta h_28 (by decide) (x_ilt q_29)
                  refine lv_astore (lv' := [(6, .ref (g.2.2.1 (xr 0 (xr 0 (xr 0 k0 0) 6) (M_23 (xr 0 k0 0) 2).toNatClampNeg))), (0, .ref (g.2.2.1 k0)), (1, .int a1), (2, .int a2), (3, .int a3), (4, .int a4), (5, .int a5)]) hx hb dX10_fact_116 hl (by decide) rfl (fun ls hl => ?_)
                  refine lv_aload hx hb dX10_fact_118 (lv_at hl 0 rfl) ?_
                  refine lv_iload_n hx hb dX10_fact_120 rfl (lv_at hl 2 rfl) ?_
                  refine lv_iload_n hx hb dX10_fact_121 rfl (lv_at hl 3 rfl) ?_
                  refine lv_iload_n hx hb dX10_fact_122 rfl (lv_at hl 4 rfl) ?_
                  refine lv_iload hx hb dX10_fact_123 (lv_at hl 5 rfl) ?_
                  refine lv_iload hx hb dX10_fact_125 (lv_at hl 6 rfl) ?_
                  obtain ⟨tM_31, c_32, hf⟩ := x_vE hf
                  refine x_vV C hw hl.1 [.int a1, .int a2, .int a3, .int a4, .int a5] [] (mX1_begin l g h_30 c_32) lk_X10_103 h_30 (by decide) rfl (by decide) rfl (Nat.le_of_ble_eq_true rfl) ⟨Nat.zero_le _, Nat.zero_le _⟩ dX10_fact_127 (fun M_31 H locs hN hw => ?_)
                  obtain rfl := hN
                  refine lv_aload hx hb dX10_fact_130 (lv_at hl 0 rfl) ?_
                  refine lv_aload_n hx hb dX10_fact_132 rfl (lv_at hl 1 rfl) ?_
                  refine fg_X10_10 C hw h0 dX10_fact_133 ?_
                  refine fg_X10_108 C hw h_1 dX10_fact_136 ?_
                  refine fp_X10_111 C hw h_30 dX10_fact_139 (fun H locs hw => ?_)
                  obtain ⟨M_33, eM_33⟩ : ∃ z, z = (x_up M_31 (xr 0 (xr 0 (xr 0 k0 0) 6) (M_23 (xr 0 k0 0) 2).toNatClampNeg) 5 (M_31 (xr 0 k0 0) 0)) := ⟨_, rfl⟩
                  rw [← eM_33] at hw
                  have hf := x_lE eM_33 hf
                  refine lv_aload_n hx hb dX10_fact_142 rfl (lv_at hl 1 rfl) ?_
                  refine fg_X10_10 C hw h0 dX10_fact_143 ?_
                  refine lv_dup hx hb dX10_fact_146 rfl ?_
                  refine fg_X10_96 C hw h_1 dX10_fact_147 ?_
                  refine lv_iconst (v := (1 : Int32)) hx hb dX10_fact_150 (by decide) ?_
                  refine lv_iadd hx hb dX10_fact_151 ?_
                  refine fp_X10_96 C hw h_1 dX10_fact_152 (fun H locs hw => ?_)
                  obtain ⟨M_34, eM_34⟩ : ∃ z, z = (x_up M_33 (xr 0 k0 0) 2 ((M_33 (xr 0 k0 0) 2) + (1 : Int32))) := ⟨_, rfl⟩
                  rw [← eM_34] at hw
                  have hf := x_lE eM_34 hf
                  refine lv_aload_n hx hb dX10_fact_155 rfl (lv_at hl 1 rfl) ?_
                  refine fg_X10_10 C hw h0 dX10_fact_156 ?_
                  refine fg_X10_96 C hw h_1 dX10_fact_159 ?_
                  exact ret hf dX10_fact_162 hw
                · have hf := x_iN hf q_27
                  refine lv_ldc hx hb hown (hB _ mk_X10_65) dX10_fact_98 ?_
                  exact ret hf dX10_fact_100 hw
              · have hf := x_iP hf q_26
                refine lv_ldc hx hb hown (hB _ mk_X10_61) dX10_fact_83 ?_
                exact ret hf dX10_fact_85 hw
          refine lv_icmp_ne (tgt := 63) hx hb dX10_fact_55 (by decide) (fun q_35 => ?_) (fun q_35 => ?_)
          · have hf := x_iN hf q_35
            refine lv_ldc hx hb hown (hB _ mk_X10_95) dX10_fact_63 ?_
            exact hk65_17 _ _ _ _ _ (lv_sub hl [0, 1, 2, 3, 4, 5] rfl) hw hf
          · have hf := x_iP hf q_35
            refine lv_bipush (v := (9 : Int32)) hx hb dX10_fact_58 (by decide) ?_
            refine lv_goto (tgt := 65) hx hb dX10_fact_60 (by decide) ?_
            exact hk65_17 _ _ _ _ _ (lv_sub hl [0, 1, 2, 3, 4, 5] rfl) hw hf
        refine lv_icmp_ne (tgt := 50) hx hb dX10_fact_34 (by decide) (fun q_36 => ?_) (fun q_36 => ?_)
        · have hf := x_iN hf q_36
          exact hk50_14 _ _ _ _ (lv_sub hl [0, 1, 2, 3, 4, 5] rfl) hw hf
        · have hf := x_iP hf q_36
          refine lv_iload_n hx hb dX10_fact_37 rfl (lv_at hl 2 rfl) ?_
          refine lv_iconst (v := (1 : Int32)) hx hb dX10_fact_38 (by decide) ?_
          refine lv_icmp_eq (tgt := 47) hx hb dX10_fact_39 (by decide) (fun q_37 => ?_) (fun q_37 => ?_)
          · have hf := x_iP hf q_37
            refine lv_ldc hx hb hown (hB _ mk_X10_61) dX10_fact_47 ?_
            exact ret hf dX10_fact_49 hw
          · have hf := x_iN hf q_37
            refine lv_iload_n hx hb dX10_fact_42 rfl (lv_at hl 2 rfl) ?_
            refine lv_iconst (v := (3 : Int32)) hx hb dX10_fact_43 (by decide) ?_
            refine lv_icmp_ne (tgt := 50) hx hb dX10_fact_44 (by decide) (fun q_38 => ?_) (fun q_38 => ?_)
            · have hf := x_iN hf q_38
              exact hk50_14 _ _ _ _ (lv_sub hl [0, 1, 2, 3, 4, 5] rfl) hw hf
            · have hf := x_iP hf q_38
              refine lv_ldc hx hb hown (hB _ mk_X10_61) dX10_fact_47 ?_
              exact ret hf dX10_fact_49 hw
      · have hf := x_iP hf q_13
        refine lv_ldc hx hb hown (hB _ mk_X10_61) dX10_fact_29 ?_
        exact ret hf dX10_fact_31 hw
def fX10_known (M : xM) (k0 : Nat) (a1 : Int32) (a2 : Int32) (a3 : Int32) (a4 : Int32) : Option (Int32 × xM) := x_b (fX8_hasPerson M (xr 0 k0 0) a1) fun v_4 M_2 => if v_4 = 0 then (some ((-1000000001 : Int32), M_2)) else (x_b (fX10_isWithin M_2 a2 (0 : Int32) (4 : Int32)) fun v_8 M_6 => if v_8 = 0 then (some ((-1000000001 : Int32), M_6)) else (x_b (fX10_isWithin M_6 a3 (0 : Int32) (3000 : Int32)) fun v_12 M_10 => if v_12 = 0 then (some ((-1000000001 : Int32), M_10)) else (x_b (fX10_isWithin M_10 a4 (0 : Int32) (M_10 (xr 0 k0 0) 0)) fun v_16 M_14 => if v_16 = 0 then (some ((-1000000001 : Int32), M_14)) else (if a2 = (4 : Int32) then (x_b (fX8_earnings M_14 (xr 0 k0 0) a1 a3 a4) fun v_24 M_22 => some (v_24, M_22)) else (x_b (fX8_valueOf M_14 (xr 0 k0 0) a1 a2 a3 a4) fun v_21 M_19 => some (v_21, M_19))))))
set_option maxRecDepth 100000 in
set_option maxHeartbeats 4000000 in
theorem mX10_known (l : Launch) (g : xG) {k0 : Nat} {a1 : Int32} {a2 : Int32} {a3 : Int32} {a4 : Int32} {r : Int32} {M' : xM} (h0 : x_is 0 k0 10) {M : xM} (hf : fX10_known M k0 a1 a2 a3 a4 = some (r, M')) : x_cI l g 0 yX10_known cX10_known 5 .int 4 99 [.ref (g.2.2.1 k0), .int a1, .int a2, .int a3, .int a4] M (fun v N => v = r ∧ N = M') := by
  refine x_stI RX10 (by decide) rfl (Nat.le_of_ble_eq_true rfl) ?_
  intro p e s m args below meth c Q ls C hw ret hl
  obtain ⟨hx, hb, hml, hown, hB, -⟩ := id C
  have hl : lv_has ls 5 [(0, .ref (g.2.2.1 k0)), (1, .int a1), (2, .int a2), (3, .int a3), (4, .int a4)] := hl
  unfold fX10_known at hf
  refine lv_aload_n hx hb dX10_known_0 rfl (lv_at hl 0 rfl) ?_
  refine fg_X10_10 C hw h0 dX10_known_1 ?_
  have h_1 : x_is 0 (xr 0 k0 0) 8 := x_tr h0 (by decide) (by decide) rfl (by decide)
  refine lv_iload_n hx hb dX10_known_4 rfl (lv_at hl 1 rfl) ?_
  obtain ⟨tv_4, tM_2, c_3, hf⟩ := x_bE hf
  refine x_vI C hw hl.1 [.int a1] [] (mX8_hasPerson l g h_1 c_3) lk_X10_76 h_1 (by decide) rfl (by decide) rfl (Nat.le_of_ble_eq_true rfl) ⟨Nat.zero_le _, Nat.zero_le _⟩ dX10_known_5 (fun v_4 M_2 H locs hN hw => ?_)
  obtain ⟨rfl, rfl⟩ := hN
  refine lv_if_eq (tgt := 20) hx hb dX10_known_8 (by decide) (fun q_5 => ?_) (fun q_5 => ?_)
  · have hf := x_iP hf q_5
    refine lv_ldc hx hb hown (hB _ mk_X10_61) dX10_known_20 ?_
    exact ret hf dX10_known_22 hw
  · have hf := x_iN hf q_5
    refine lv_iload_n hx hb dX10_known_11 rfl (lv_at hl 2 rfl) ?_
    refine lv_iconst (v := (0 : Int32)) hx hb dX10_known_12 (by decide) ?_
    refine lv_iconst (v := (4 : Int32)) hx hb dX10_known_13 (by decide) ?_
    obtain ⟨tv_8, tM_6, c_7, hf⟩ := x_bE hf
    refine x_sI C hw hl.1 [.int a2, .int (0 : Int32), .int (4 : Int32)] [] (mX10_isWithin l g c_7) lk_X10_57 (by decide) rfl (Nat.le_of_ble_eq_true rfl) ⟨Nat.zero_le _, Nat.zero_le _⟩ dX10_known_14 (fun v_8 M_6 H locs hN hw => ?_)
    obtain ⟨rfl, rfl⟩ := hN
    refine lv_if_ne (tgt := 23) hx hb dX10_known_17 (by decide) (fun q_9 => ?_) (fun q_9 => ?_)
    · have hf := x_iN hf q_9
      refine lv_iload_n hx hb dX10_known_23 rfl (lv_at hl 3 rfl) ?_
      refine lv_iconst (v := (0 : Int32)) hx hb dX10_known_24 (by decide) ?_
      refine lv_sipush (v := (3000 : Int32)) hx hb dX10_known_25 (by decide) ?_
      obtain ⟨tv_12, tM_10, c_11, hf⟩ := x_bE hf
      refine x_sI C hw hl.1 [.int a3, .int (0 : Int32), .int (3000 : Int32)] [] (mX10_isWithin l g c_11) lk_X10_57 (by decide) rfl (Nat.le_of_ble_eq_true rfl) ⟨Nat.zero_le _, Nat.zero_le _⟩ dX10_known_28 (fun v_12 M_10 H locs hN hw => ?_)
      obtain ⟨rfl, rfl⟩ := hN
      refine lv_if_eq (tgt := 50) hx hb dX10_known_31 (by decide) (fun q_13 => ?_) (fun q_13 => ?_)
      · have hf := x_iP hf q_13
        refine lv_ldc hx hb hown (hB _ mk_X10_61) dX10_known_50 ?_
        exact ret hf dX10_known_52 hw
      · have hf := x_iN hf q_13
        refine lv_iload hx hb dX10_known_34 (lv_at hl 4 rfl) ?_
        refine lv_iconst (v := (0 : Int32)) hx hb dX10_known_36 (by decide) ?_
        refine lv_aload_n hx hb dX10_known_37 rfl (lv_at hl 0 rfl) ?_
        refine fg_X10_10 C hw h0 dX10_known_38 ?_
        refine fg_X10_108 C hw h_1 dX10_known_41 ?_
        obtain ⟨tv_16, tM_14, c_15, hf⟩ := x_bE hf
        refine x_sI C hw hl.1 [.int a4, .int (0 : Int32), .int (M_10 (xr 0 k0 0) 0)] [] (mX10_isWithin l g c_15) lk_X10_57 (by decide) rfl (Nat.le_of_ble_eq_true rfl) ⟨Nat.zero_le _, Nat.zero_le _⟩ dX10_known_44 (fun v_16 M_14 H locs hN hw => ?_)
        obtain ⟨rfl, rfl⟩ := hN
        refine lv_if_ne (tgt := 53) hx hb dX10_known_47 (by decide) (fun q_17 => ?_) (fun q_17 => ?_)
        · have hf := x_iN hf q_17
          refine lv_iload_n hx hb dX10_known_53 rfl (lv_at hl 2 rfl) ?_
          refine lv_iconst (v := (4 : Int32)) hx hb dX10_known_54 (by decide) ?_
          refine lv_icmp_ne (tgt := 72) hx hb dX10_known_55 (by decide) (fun q_18 => ?_) (fun q_18 => ?_)
          · have hf := x_iN hf q_18
            refine lv_aload_n hx hb dX10_known_72 rfl (lv_at hl 0 rfl) ?_
            refine fg_X10_10 C hw h0 dX10_known_73 ?_
            refine lv_iload_n hx hb dX10_known_76 rfl (lv_at hl 1 rfl) ?_
            refine lv_iload_n hx hb dX10_known_77 rfl (lv_at hl 2 rfl) ?_
            refine lv_iload_n hx hb dX10_known_78 rfl (lv_at hl 3 rfl) ?_
            refine lv_iload hx hb dX10_known_79 (lv_at hl 4 rfl) ?_
            obtain ⟨tv_21, tM_19, c_20, hf⟩ := x_bE hf
            refine x_vI C hw hl.1 [.int a1, .int a2, .int a3, .int a4] [] (mX8_valueOf l g h_1 c_20) lk_X10_118 h_1 (by decide) rfl (by decide) rfl (Nat.le_of_ble_eq_true rfl) ⟨Nat.zero_le _, Nat.zero_le _⟩ dX10_known_81 (fun v_21 M_19 H locs hN hw => ?_)
            obtain ⟨rfl, rfl⟩ := hN
            exact ret hf dX10_known_84 hw
          · have hf := x_iP hf q_18
            refine lv_aload_n hx hb dX10_known_58 rfl (lv_at hl 0 rfl) ?_
            refine fg_X10_10 C hw h0 dX10_known_59 ?_
            refine lv_iload_n hx hb dX10_known_62 rfl (lv_at hl 1 rfl) ?_
            refine lv_iload_n hx hb dX10_known_63 rfl (lv_at hl 3 rfl) ?_
            refine lv_iload hx hb dX10_known_64 (lv_at hl 4 rfl) ?_
            obtain ⟨tv_24, tM_22, c_23, hf⟩ := x_bE hf
            refine x_vI C hw hl.1 [.int a1, .int a3, .int a4] [] (mX8_earnings l g h_1 c_23) lk_X10_114 h_1 (by decide) rfl (by decide) rfl (Nat.le_of_ble_eq_true rfl) ⟨Nat.zero_le _, Nat.zero_le _⟩ dX10_known_66 (fun v_24 M_22 H locs hN hw => ?_)
            obtain ⟨rfl, rfl⟩ := hN
            refine lv_goto (tgt := 84) hx hb dX10_known_69 (by decide) ?_
            exact ret hf dX10_known_84 hw
        · have hf := x_iP hf q_17
          refine lv_ldc hx hb hown (hB _ mk_X10_61) dX10_known_50 ?_
          exact ret hf dX10_known_52 hw
    · have hf := x_iP hf q_9
      refine lv_ldc hx hb hown (hB _ mk_X10_61) dX10_known_20 ?_
      exact ret hf dX10_known_22 hw
def fX10_custody (M : xM) (k0 : Nat) (a1 : Int32) (a2 : Int32) : Option (Int32 × xM) := x_b (fX8_hasPerson M (xr 0 k0 0) a1) fun v_4 M_2 => if v_4 = 0 then (some ((-1000000001 : Int32), M_2)) else (x_b (fX10_isWithin M_2 a2 (1 : Int32) (999 : Int32)) fun v_8 M_6 => if v_8 = 0 then (some ((-1000000001 : Int32), M_6)) else (x_g a1 (xn 0 (xr 0 (xr 0 k0 0) 5)) (if ((M_6 (xr 0 (xr 0 (xr 0 k0 0) 5) a1.toNatClampNeg) 2) + a2) ≤ (9999 : Int32) then (x_l (x_up M_6 (xr 0 (xr 0 (xr 0 k0 0) 5) a1.toNatClampNeg) 2 ((M_6 (xr 0 (xr 0 (xr 0 k0 0) 5) a1.toNatClampNeg) 2) + a2)) fun M_14 => some ((M_14 (xr 0 (xr 0 (xr 0 k0 0) 5) a1.toNatClampNeg) 2), M_14)) else (some ((-1000000003 : Int32), M_6)))))
set_option maxRecDepth 100000 in
set_option maxHeartbeats 4000000 in
theorem mX10_custody (l : Launch) (g : xG) {k0 : Nat} {a1 : Int32} {a2 : Int32} {r : Int32} {M' : xM} (h0 : x_is 0 k0 10) {M : xM} (hf : fX10_custody M k0 a1 a2 = some (r, M')) : x_cI l g 0 yX10_custody cX10_custody 4 .int 2 43 [.ref (g.2.2.1 k0), .int a1, .int a2] M (fun v N => v = r ∧ N = M') := by
  refine x_stI RX10 (by decide) rfl (Nat.le_of_ble_eq_true rfl) ?_
  intro p e s m args below meth c Q ls C hw ret hl
  obtain ⟨hx, hb, hml, hown, hB, -⟩ := id C
  have hl : lv_has ls 4 [(0, .ref (g.2.2.1 k0)), (1, .int a1), (2, .int a2)] := hl
  unfold fX10_custody at hf
  refine lv_aload_n hx hb dX10_custody_0 rfl (lv_at hl 0 rfl) ?_
  refine fg_X10_10 C hw h0 dX10_custody_1 ?_
  have h_1 : x_is 0 (xr 0 k0 0) 8 := x_tr h0 (by decide) (by decide) rfl (by decide)
  refine lv_iload_n hx hb dX10_custody_4 rfl (lv_at hl 1 rfl) ?_
  obtain ⟨tv_4, tM_2, c_3, hf⟩ := x_bE hf
  refine x_vI C hw hl.1 [.int a1] [] (mX8_hasPerson l g h_1 c_3) lk_X10_76 h_1 (by decide) rfl (by decide) rfl (Nat.le_of_ble_eq_true rfl) ⟨Nat.zero_le _, Nat.zero_le _⟩ dX10_custody_5 (fun v_4 M_2 H locs hN hw => ?_)
  obtain ⟨rfl, rfl⟩ := hN
  refine lv_if_eq (tgt := 22) hx hb dX10_custody_8 (by decide) (fun q_5 => ?_) (fun q_5 => ?_)
  · have hf := x_iP hf q_5
    refine lv_ldc hx hb hown (hB _ mk_X10_61) dX10_custody_22 ?_
    exact ret hf dX10_custody_24 hw
  · have hf := x_iN hf q_5
    refine lv_iload_n hx hb dX10_custody_11 rfl (lv_at hl 2 rfl) ?_
    refine lv_iconst (v := (1 : Int32)) hx hb dX10_custody_12 (by decide) ?_
    refine lv_sipush (v := (999 : Int32)) hx hb dX10_custody_13 (by decide) ?_
    obtain ⟨tv_8, tM_6, c_7, hf⟩ := x_bE hf
    refine x_sI C hw hl.1 [.int a2, .int (1 : Int32), .int (999 : Int32)] [] (mX10_isWithin l g c_7) lk_X10_57 (by decide) rfl (Nat.le_of_ble_eq_true rfl) ⟨Nat.zero_le _, Nat.zero_le _⟩ dX10_custody_16 (fun v_8 M_6 H locs hN hw => ?_)
    obtain ⟨rfl, rfl⟩ := hN
    refine lv_if_ne (tgt := 25) hx hb dX10_custody_19 (by decide) (fun q_9 => ?_) (fun q_9 => ?_)
    · have hf := x_iN hf q_9
      refine lv_aload_n hx hb dX10_custody_25 rfl (lv_at hl 0 rfl) ?_
      refine fg_X10_10 C hw h0 dX10_custody_26 ?_
      refine fg_X10_66 C hw h_1 dX10_custody_29 ?_
      have h_10 : x_is 0 (xr 0 (xr 0 k0 0) 5) 17 := x_tr h_1 (by decide) (by decide) rfl (by decide)
      refine lv_iload_n hx hb dX10_custody_32 rfl (lv_at hl 1 rfl) ?_
      obtain ⟨q_11, hf⟩ := x_gE hf
      refine x_rld (t := 5) C hw h_10 (by decide) rfl q_11 dX10_custody_33 ?_
      have h_12 : x_is 0 (xr 0 (xr 0 (xr 0 k0 0) 5) a1.toNatClampNeg) 4 := x_ta h_10 (by decide) (x_ilt q_11)
      refine lv_astore_n (lv' := [(3, .ref (g.2.2.1 (xr 0 (xr 0 (xr 0 k0 0) 5) a1.toNatClampNeg))), (0, .ref (g.2.2.1 k0)), (1, .int a1), (2, .int a2)]) hx hb dX10_custody_34 rfl hl (by decide) rfl (fun ls hl => ?_)
      refine lv_aload_n hx hb dX10_custody_35 rfl (lv_at hl 0 rfl) ?_
      refine fg_X10_122 C hw h_12 dX10_custody_36 ?_
      refine lv_iload_n hx hb dX10_custody_39 rfl (lv_at hl 3 rfl) ?_
      refine lv_iadd hx hb dX10_custody_40 ?_
      refine lv_sipush (v := (9999 : Int32)) hx hb dX10_custody_41 (by decide) ?_
      refine lv_icmp_le (tgt := 50) hx hb dX10_custody_44 (by decide) (fun q_13 => ?_) (fun q_13 => ?_)
      · have hf := x_iP hf q_13
        refine lv_aload_n hx hb dX10_custody_50 rfl (lv_at hl 0 rfl) ?_
        refine lv_dup hx hb dX10_custody_51 rfl ?_
        refine fg_X10_122 C hw h_12 dX10_custody_52 ?_
        refine lv_iload_n hx hb dX10_custody_55 rfl (lv_at hl 3 rfl) ?_
        refine lv_iadd hx hb dX10_custody_56 ?_
        refine fp_X10_122 C hw h_12 dX10_custody_57 (fun H locs hw => ?_)
        obtain ⟨M_14, eM_14⟩ : ∃ z, z = (x_up M_6 (xr 0 (xr 0 (xr 0 k0 0) 5) a1.toNatClampNeg) 2 ((M_6 (xr 0 (xr 0 (xr 0 k0 0) 5) a1.toNatClampNeg) 2) + a2)) := ⟨_, rfl⟩
        rw [← eM_14] at hw
        have hf := x_lE eM_14 hf
        refine lv_aload_n hx hb dX10_custody_60 rfl (lv_at hl 0 rfl) ?_
        refine fg_X10_122 C hw h_12 dX10_custody_61 ?_
        exact ret hf dX10_custody_64 hw
      · have hf := x_iN hf q_13
        refine lv_ldc hx hb hown (hB _ mk_X10_65) dX10_custody_47 ?_
        exact ret hf dX10_custody_49 hw
    · have hf := x_iP hf q_9
      refine lv_ldc hx hb hown (hB _ mk_X10_61) dX10_custody_22 ?_
      exact ret hf dX10_custody_24 hw
def fX10_days (M : xM) (k0 : Nat) (a1 : Int32) : Option (Int32 × xM) := x_b (fX10_isWithin M a1 (1 : Int32) (100 : Int32)) fun v_3 M_1 => if v_3 = 0 then (some ((-1000000001 : Int32), M_1)) else (if ((M_1 (xr 0 k0 0) 0) + a1) ≤ (3000 : Int32) then (x_l (x_up M_1 (xr 0 k0 0) 0 ((M_1 (xr 0 k0 0) 0) + a1)) fun M_7 => some ((M_7 (xr 0 k0 0) 0), M_7)) else (some ((-1000000001 : Int32), M_1)))
set_option maxRecDepth 100000 in
set_option maxHeartbeats 4000000 in
theorem mX10_days (l : Launch) (g : xG) {k0 : Nat} {a1 : Int32} {r : Int32} {M' : xM} (h0 : x_is 0 k0 10) {M : xM} (hf : fX10_days M k0 a1 = some (r, M')) : x_cI l g 0 yX10_days cX10_days 2 .int 1 22 [.ref (g.2.2.1 k0), .int a1] M (fun v N => v = r ∧ N = M') := by
  refine x_stI RX10 (by decide) rfl (Nat.le_of_ble_eq_true rfl) ?_
  intro p e s m args below meth c Q ls C hw ret hl
  obtain ⟨hx, hb, hml, hown, hB, -⟩ := id C
  have hl : lv_has ls 2 [(0, .ref (g.2.2.1 k0)), (1, .int a1)] := hl
  unfold fX10_days at hf
  refine lv_iload_n hx hb dX10_days_0 rfl (lv_at hl 1 rfl) ?_
  refine lv_iconst (v := (1 : Int32)) hx hb dX10_days_1 (by decide) ?_
  refine lv_bipush (v := (100 : Int32)) hx hb dX10_days_2 (by decide) ?_
  obtain ⟨tv_3, tM_1, c_2, hf⟩ := x_bE hf
  refine x_sI C hw hl.1 [.int a1, .int (1 : Int32), .int (100 : Int32)] [] (mX10_isWithin l g c_2) lk_X10_57 (by decide) rfl (Nat.le_of_ble_eq_true rfl) ⟨Nat.zero_le _, Nat.zero_le _⟩ dX10_days_4 (fun v_3 M_1 H locs hN hw => ?_)
  obtain ⟨rfl, rfl⟩ := hN
  refine lv_if_eq (tgt := 25) hx hb dX10_days_7 (by decide) (fun q_4 => ?_) (fun q_4 => ?_)
  · have hf := x_iP hf q_4
    refine lv_ldc hx hb hown (hB _ mk_X10_61) dX10_days_25 ?_
    exact ret hf dX10_days_27 hw
  · have hf := x_iN hf q_4
    refine lv_aload_n hx hb dX10_days_10 rfl (lv_at hl 0 rfl) ?_
    refine fg_X10_10 C hw h0 dX10_days_11 ?_
    have h_5 : x_is 0 (xr 0 k0 0) 8 := x_tr h0 (by decide) (by decide) rfl (by decide)
    refine fg_X10_108 C hw h_5 dX10_days_14 ?_
    refine lv_iload_n hx hb dX10_days_17 rfl (lv_at hl 1 rfl) ?_
    refine lv_iadd hx hb dX10_days_18 ?_
    refine lv_sipush (v := (3000 : Int32)) hx hb dX10_days_19 (by decide) ?_
    refine lv_icmp_le (tgt := 28) hx hb dX10_days_22 (by decide) (fun q_6 => ?_) (fun q_6 => ?_)
    · have hf := x_iP hf q_6
      refine lv_aload_n hx hb dX10_days_28 rfl (lv_at hl 0 rfl) ?_
      refine fg_X10_10 C hw h0 dX10_days_29 ?_
      refine lv_dup hx hb dX10_days_32 rfl ?_
      refine fg_X10_108 C hw h_5 dX10_days_33 ?_
      refine lv_iload_n hx hb dX10_days_36 rfl (lv_at hl 1 rfl) ?_
      refine lv_iadd hx hb dX10_days_37 ?_
      refine fp_X10_108 C hw h_5 dX10_days_38 (fun H locs hw => ?_)
      obtain ⟨M_7, eM_7⟩ : ∃ z, z = (x_up M_1 (xr 0 k0 0) 0 ((M_1 (xr 0 k0 0) 0) + a1)) := ⟨_, rfl⟩
      rw [← eM_7] at hw
      have hf := x_lE eM_7 hf
      refine lv_aload_n hx hb dX10_days_41 rfl (lv_at hl 0 rfl) ?_
      refine fg_X10_10 C hw h0 dX10_days_42 ?_
      refine fg_X10_108 C hw h_5 dX10_days_45 ?_
      exact ret hf dX10_days_48 hw
    · have hf := x_iN hf q_6
      refine lv_ldc hx hb hown (hB _ mk_X10_61) dX10_days_25 ?_
      exact ret hf dX10_days_27 hw
def fX10_rule (M : xM) (k0 : Nat) (a1 : Int32) (a2 : Int32) : Option (Int32 × xM) := x_b (fX10_isWithin M a1 (0 : Int32) (15 : Int32)) fun v_3 M_1 => if v_3 = 0 then (some ((-1000000001 : Int32), M_1)) else (x_g a1 16 (x_b (fX10_isWithin M_1 a2 (0 : Int32) (x_most a1.toNatClampNeg)) fun v_8 M_6 => if v_8 = 0 then (some ((-1000000001 : Int32), M_6)) else (x_g a1 (xn 0 (xr 0 (xr 0 k0 0) 9)) (x_l (M_6 (xr 0 (xr 0 k0 0) 9) a1.toNatClampNeg) fun x3_13 => x_g a1 (xn 0 (xr 0 (xr 0 k0 0) 9)) (x_l (x_up M_6 (xr 0 (xr 0 k0 0) 9) a1.toNatClampNeg a2) fun M_15 => some (x3_13, M_15))))))
set_option maxRecDepth 100000 in
set_option maxHeartbeats 4000000 in
theorem mX10_rule (l : Launch) (g : xG) {k0 : Nat} {a1 : Int32} {a2 : Int32} {r : Int32} {M' : xM} (h0 : x_is 0 k0 10) {M : xM} (hf : fX10_rule M k0 a1 a2 = some (r, M')) : x_cI l g 0 yX10_rule cX10_rule 4 .int 1 22 [.ref (g.2.2.1 k0), .int a1, .int a2] M (fun v N => v = r ∧ N = M') := by
  refine x_stI RX10 (by decide) rfl (Nat.le_of_ble_eq_true rfl) ?_
  intro p e s m args below meth c Q ls C hw ret hl
  obtain ⟨hx, hb, hml, hown, hB, -⟩ := id C
  have hl : lv_has ls 4 [(0, .ref (g.2.2.1 k0)), (1, .int a1), (2, .int a2)] := hl
  unfold fX10_rule at hf
  refine lv_iload_n hx hb dX10_rule_0 rfl (lv_at hl 1 rfl) ?_
  refine lv_iconst (v := (0 : Int32)) hx hb dX10_rule_1 (by decide) ?_
  refine lv_bipush (v := (15 : Int32)) hx hb dX10_rule_2 (by decide) ?_
  obtain ⟨tv_3, tM_1, c_2, hf⟩ := x_bE hf
  refine x_sI C hw hl.1 [.int a1, .int (0 : Int32), .int (15 : Int32)] [] (mX10_isWithin l g c_2) lk_X10_57 (by decide) rfl (Nat.le_of_ble_eq_true rfl) ⟨Nat.zero_le _, Nat.zero_le _⟩ dX10_rule_4 (fun v_3 M_1 H locs hN hw => ?_)
  obtain ⟨rfl, rfl⟩ := hN
  refine lv_if_eq (tgt := 23) hx hb dX10_rule_7 (by decide) (fun q_4 => ?_) (fun q_4 => ?_)
  · have hf := x_iP hf q_4
    refine lv_ldc hx hb hown (hB _ mk_X10_61) dX10_rule_23 ?_
    exact ret hf dX10_rule_25 hw
  · have hf := x_iN hf q_4
    refine lv_iload_n hx hb dX10_rule_10 rfl (lv_at hl 2 rfl) ?_
    refine lv_iconst (v := (0 : Int32)) hx hb dX10_rule_11 (by decide) ?_
    refine x_most_get C hw dX10_rule_12 ?_
    refine lv_iload_n hx hb dX10_rule_15 rfl (lv_at hl 1 rfl) ?_
    obtain ⟨q_5, hf⟩ := x_gE hf
    refine x_most_ld C hw q_5 dX10_rule_16 ?_
    obtain ⟨tv_8, tM_6, c_7, hf⟩ := x_bE hf
    refine x_sI C hw hl.1 [.int a2, .int (0 : Int32), .int (x_most a1.toNatClampNeg)] [] (mX10_isWithin l g c_7) lk_X10_57 (by decide) rfl (Nat.le_of_ble_eq_true rfl) ⟨Nat.zero_le _, Nat.zero_le _⟩ dX10_rule_17 (fun v_8 M_6 H locs hN hw => ?_)
    obtain ⟨rfl, rfl⟩ := hN
    refine lv_if_ne (tgt := 26) hx hb dX10_rule_20 (by decide) (fun q_9 => ?_) (fun q_9 => ?_)
    · have hf := x_iN hf q_9
      refine lv_aload_n hx hb dX10_rule_26 rfl (lv_at hl 0 rfl) ?_
      refine fg_X10_10 C hw h0 dX10_rule_27 ?_
      have h_10 : x_is 0 (xr 0 k0 0) 8 := x_tr h0 (by decide) (by decide) rfl (by decide)
      refine fg_X10_128 C hw h_10 dX10_rule_30 ?_
      have h_11 : x_is 0 (xr 0 (xr 0 k0 0) 9) 12 := x_tr h_10 (by decide) (by decide) rfl (by decide)
      refine lv_iload_n hx hb dX10_rule_33 rfl (lv_at hl 1 rfl) ?_
      obtain ⟨q_12, hf⟩ := x_gE hf
      refine x_ald C hw h_11 q_12 dX10_rule_34 ?_
      refine lv_topi (fun x3_13 ex3_13 => ?_)
      have hf := x_lE ex3_13 hf
      refine lv_istore_n (lv' := [(3, .int x3_13), (0, .ref (g.2.2.1 k0)), (1, .int a1), (2, .int a2)]) hx hb dX10_rule_35 rfl hl (by decide) rfl (fun ls hl => ?_)
      refine lv_aload_n hx hb dX10_rule_36 rfl (lv_at hl 1 rfl) ?_
      refine fg_X10_10 C hw h0 dX10_rule_37 ?_
      refine fg_X10_128 C hw h_10 dX10_rule_40 ?_
      refine lv_iload_n hx hb dX10_rule_43 rfl (lv_at hl 2 rfl) ?_
      refine lv_iload_n hx hb dX10_rule_44 rfl (lv_at hl 3 rfl) ?_
      obtain ⟨q_14, hf⟩ := x_gE hf
      refine x_ast C hw h_11 q_14 dX10_rule_45 (fun H locs hw => ?_)
      obtain ⟨M_15, eM_15⟩ : ∃ z, z = (x_up M_6 (xr 0 (xr 0 k0 0) 9) a1.toNatClampNeg a2) := ⟨_, rfl⟩
      rw [← eM_15] at hw
      have hf := x_lE eM_15 hf
      refine lv_iload_n hx hb dX10_rule_46 rfl (lv_at hl 0 rfl) ?_
      exact ret hf dX10_rule_47 hw
    · have hf := x_iP hf q_9
      refine lv_ldc hx hb hown (hB _ mk_X10_61) dX10_rule_23 ?_
      exact ret hf dX10_rule_25 hw
def fX10_deed (M : xM) (k0 : Nat) (a1 : Int32) (a2 : Int32) (a3 : Int32) (a4 : Int32) : Option (Int32 × xM) := x_b (fX10_isWithin M a1 (0 : Int32) (3 : Int32)) fun v_3 M_1 => if v_3 = 0 then (some ((-1000000001 : Int32), M_1)) else (x_b (fX8_hasPerson M_1 (xr 0 k0 0) a2) fun v_8 M_6 => if v_8 = 0 then (some ((-1000000001 : Int32), M_6)) else (x_b (fX10_isWithin M_6 a3 (0 : Int32) (M_6 (xr 0 k0 0) 0)) fun v_12 M_10 => if v_12 = 0 then (some ((-1000000001 : Int32), M_10)) else (x_b (fX10_isWithin M_10 a4 (1 : Int32) (100 : Int32)) fun v_16 M_14 => if v_16 = 0 then (some ((-1000000001 : Int32), M_14)) else (if (M_14 (xr 0 k0 0) 3) < (30 : Int32) then (x_g (M_14 (xr 0 k0 0) 3) (xn 0 (xr 0 (xr 0 k0 0) 7)) (x_v (fX0_begin M_14 (xr 0 (xr 0 (xr 0 k0 0) 7) (M_14 (xr 0 k0 0) 3).toNatClampNeg) a1 a2 a3 a4) fun M_22 => x_l (x_up M_22 (xr 0 k0 0) 3 ((M_22 (xr 0 k0 0) 3) + (1 : Int32))) fun M_24 => some (((M_24 (xr 0 k0 0) 3) - (1 : Int32)), M_24))) else (some ((-1000000003 : Int32), M_14))))))
set_option maxRecDepth 100000 in
set_option maxHeartbeats 4000000 in
theorem mX10_deed (l : Launch) (g : xG) {k0 : Nat} {a1 : Int32} {a2 : Int32} {a3 : Int32} {a4 : Int32} {r : Int32} {M' : xM} (h0 : x_is 0 k0 10) {M : xM} (hf : fX10_deed M k0 a1 a2 a3 a4 = some (r, M')) : x_cI l g 0 yX10_deed cX10_deed 5 .int 2 43 [.ref (g.2.2.1 k0), .int a1, .int a2, .int a3, .int a4] M (fun v N => v = r ∧ N = M') := by
  refine x_stI RX10 (by decide) rfl (Nat.le_of_ble_eq_true rfl) ?_
  intro p e s m args below meth c Q ls C hw ret hl
  obtain ⟨hx, hb, hml, hown, hB, -⟩ := id C
  have hl : lv_has ls 5 [(0, .ref (g.2.2.1 k0)), (1, .int a1), (2, .int a2), (3, .int a3), (4, .int a4)] := hl
  unfold fX10_deed at hf
  refine lv_iload_n hx hb dX10_deed_0 rfl (lv_at hl 1 rfl) ?_
  refine lv_iconst (v := (0 : Int32)) hx hb dX10_deed_1 (by decide) ?_
  refine lv_iconst (v := (3 : Int32)) hx hb dX10_deed_2 (by decide) ?_
  obtain ⟨tv_3, tM_1, c_2, hf⟩ := x_bE hf
  refine x_sI C hw hl.1 [.int a1, .int (0 : Int32), .int (3 : Int32)] [] (mX10_isWithin l g c_2) lk_X10_57 (by decide) rfl (Nat.le_of_ble_eq_true rfl) ⟨Nat.zero_le _, Nat.zero_le _⟩ dX10_deed_3 (fun v_3 M_1 H locs hN hw => ?_)
  obtain ⟨rfl, rfl⟩ := hN
  refine lv_if_eq (tgt := 20) hx hb dX10_deed_6 (by decide) (fun q_4 => ?_) (fun q_4 => ?_)
  · have hf := x_iP hf q_4
    refine lv_ldc hx hb hown (hB _ mk_X10_61) dX10_deed_20 ?_
    exact ret hf dX10_deed_22 hw
  · have hf := x_iN hf q_4
    refine lv_aload_n hx hb dX10_deed_9 rfl (lv_at hl 0 rfl) ?_
    refine fg_X10_10 C hw h0 dX10_deed_10 ?_
    have h_5 : x_is 0 (xr 0 k0 0) 8 := x_tr h0 (by decide) (by decide) rfl (by decide)
    refine lv_iload_n hx hb dX10_deed_13 rfl (lv_at hl 2 rfl) ?_
    obtain ⟨tv_8, tM_6, c_7, hf⟩ := x_bE hf
    refine x_vI C hw hl.1 [.int a2] [] (mX8_hasPerson l g h_5 c_7) lk_X10_76 h_5 (by decide) rfl (by decide) rfl (Nat.le_of_ble_eq_true rfl) ⟨Nat.zero_le _, Nat.zero_le _⟩ dX10_deed_14 (fun v_8 M_6 H locs hN hw => ?_)
    obtain ⟨rfl, rfl⟩ := hN
    refine lv_if_ne (tgt := 23) hx hb dX10_deed_17 (by decide) (fun q_9 => ?_) (fun q_9 => ?_)
    · have hf := x_iN hf q_9
      refine lv_iload_n hx hb dX10_deed_23 rfl (lv_at hl 3 rfl) ?_
      refine lv_iconst (v := (0 : Int32)) hx hb dX10_deed_24 (by decide) ?_
      refine lv_aload_n hx hb dX10_deed_25 rfl (lv_at hl 0 rfl) ?_
      refine fg_X10_10 C hw h0 dX10_deed_26 ?_
      refine fg_X10_108 C hw h_5 dX10_deed_29 ?_
      obtain ⟨tv_12, tM_10, c_11, hf⟩ := x_bE hf
      refine x_sI C hw hl.1 [.int a3, .int (0 : Int32), .int (M_6 (xr 0 k0 0) 0)] [] (mX10_isWithin l g c_11) lk_X10_57 (by decide) rfl (Nat.le_of_ble_eq_true rfl) ⟨Nat.zero_le _, Nat.zero_le _⟩ dX10_deed_32 (fun v_12 M_10 H locs hN hw => ?_)
      obtain ⟨rfl, rfl⟩ := hN
      refine lv_if_eq (tgt := 49) hx hb dX10_deed_35 (by decide) (fun q_13 => ?_) (fun q_13 => ?_)
      · have hf := x_iP hf q_13
        refine lv_ldc hx hb hown (hB _ mk_X10_61) dX10_deed_49 ?_
        exact ret hf dX10_deed_51 hw
      · have hf := x_iN hf q_13
        refine lv_iload hx hb dX10_deed_38 (lv_at hl 4 rfl) ?_
        refine lv_iconst (v := (1 : Int32)) hx hb dX10_deed_40 (by decide) ?_
        refine lv_bipush (v := (100 : Int32)) hx hb dX10_deed_41 (by decide) ?_
        obtain ⟨tv_16, tM_14, c_15, hf⟩ := x_bE hf
        refine x_sI C hw hl.1 [.int a4, .int (1 : Int32), .int (100 : Int32)] [] (mX10_isWithin l g c_15) lk_X10_57 (by decide) rfl (Nat.le_of_ble_eq_true rfl) ⟨Nat.zero_le _, Nat.zero_le _⟩ dX10_deed_43 (fun v_16 M_14 H locs hN hw => ?_)
        obtain ⟨rfl, rfl⟩ := hN
        refine lv_if_ne (tgt := 52) hx hb dX10_deed_46 (by decide) (fun q_17 => ?_) (fun q_17 => ?_)
        · have hf := x_iN hf q_17
          refine lv_aload_n hx hb dX10_deed_52 rfl (lv_at hl 0 rfl) ?_
          refine fg_X10_10 C hw h0 dX10_deed_53 ?_
          refine fg_X10_131 C hw h_5 dX10_deed_56 ?_
          refine lv_bipush (v := (30 : Int32)) hx hb dX10_deed_59 (by decide) ?_
          refine lv_icmp_lt (tgt := 67) hx hb dX10_deed_61 (by decide) (fun q_18 => ?_) (fun q_18 => ?_)
          · have hf := x_iP hf q_18
            refine lv_aload_n hx hb dX10_deed_67 rfl (lv_at hl 0 rfl) ?_
            refine fg_X10_10 C hw h0 dX10_deed_68 ?_
            refine fg_X10_134 C hw h_5 dX10_deed_71 ?_
            have h_19 : x_is 0 (xr 0 (xr 0 k0 0) 7) 14 := x_tr h_5 (by decide) (by decide) rfl (by decide)
            refine lv_aload_n hx hb dX10_deed_74 rfl (lv_at hl 0 rfl) ?_
            refine fg_X10_10 C hw h0 dX10_deed_75 ?_
            refine fg_X10_131 C hw h_5 dX10_deed_78 ?_
            obtain ⟨q_20, hf⟩ := x_gE hf
            refine x_rld (t := 2) C hw h_19 (by decide) rfl q_20 dX10_deed_81 ?_
            have h_21 : x_is 0 (xr 0 (xr 0 (xr 0 k0 0) 7) (M_14 (xr 0 k0 0) 3).toNatClampNeg) 0 := x_ta h_19 (by decide) (x_ilt q_20)
            refine lv_iload_n hx hb dX10_deed_82 rfl (lv_at hl 1 rfl) ?_
            refine lv_iload_n hx hb dX10_deed_83 rfl (lv_at hl 2 rfl) ?_
            refine lv_iload_n hx hb dX10_deed_84 rfl (lv_at hl 3 rfl) ?_
            refine lv_iload hx hb dX10_deed_85 (lv_at hl 4 rfl) ?_
            obtain ⟨tM_22, c_23, hf⟩ := x_vE hf
            refine x_vV C hw hl.1 [.int a1, .int a2, .int a3, .int a4] [] (mX0_begin l g h_21 c_23) lk_X10_138 h_21 (by decide) rfl (by decide) rfl (Nat.le_of_ble_eq_true rfl) ⟨Nat.zero_le _, Nat.zero_le _⟩ dX10_deed_87 (fun M_22 H locs hN hw => ?_)
            obtain rfl := hN
            refine lv_aload_n hx hb dX10_deed_90 rfl (lv_at hl 0 rfl) ?_
            refine fg_X10_10 C hw h0 dX10_deed_91 ?_
            refine lv_dup hx hb dX10_deed_94 rfl ?_
            refine fg_X10_131 C hw h_5 dX10_deed_95 ?_
            refine lv_iconst (v := (1 : Int32)) hx hb dX10_deed_98 (by decide) ?_
            refine lv_iadd hx hb dX10_deed_99 ?_
            refine fp_X10_131 C hw h_5 dX10_deed_100 (fun H locs hw => ?_)
            obtain ⟨M_24, eM_24⟩ : ∃ z, z = (x_up M_22 (xr 0 k0 0) 3 ((M_22 (xr 0 k0 0) 3) + (1 : Int32))) := ⟨_, rfl⟩
            rw [← eM_24] at hw
            have hf := x_lE eM_24 hf
            refine lv_aload_n hx hb dX10_deed_103 rfl (lv_at hl 0 rfl) ?_
            refine fg_X10_10 C hw h0 dX10_deed_104 ?_
            refine fg_X10_131 C hw h_5 dX10_deed_107 ?_
            refine lv_iconst (v := (1 : Int32)) hx hb dX10_deed_110 (by decide) ?_
            refine lv_isub hx hb dX10_deed_111 ?_
            exact ret hf dX10_deed_112 hw
          · have hf := x_iN hf q_18
            refine lv_ldc hx hb hown (hB _ mk_X10_65) dX10_deed_64 ?_
            exact ret hf dX10_deed_66 hw
        · have hf := x_iP hf q_17
          refine lv_ldc hx hb hown (hB _ mk_X10_61) dX10_deed_49 ?_
          exact ret hf dX10_deed_51 hw
    · have hf := x_iP hf q_9
      refine lv_ldc hx hb hown (hB _ mk_X10_61) dX10_deed_20 ?_
      exact ret hf dX10_deed_22 hw
def fX10_isOf (M : xM) (k0 : Nat) (a1 : Int32) (a2 : Int32) : Option (Int32 × xM) := x_b (fX8_hasDeed M (xr 0 k0 0) a1) fun v_4 M_2 => if v_4 = 0 then (some ((-1000000001 : Int32), M_2)) else (x_b (fX10_isWithin M_2 a2 (0 : Int32) (3 : Int32)) fun v_8 M_6 => if v_8 = 0 then (some ((-1000000001 : Int32), M_6)) else (x_g a1 (xn 0 (xr 0 (xr 0 k0 0) 7)) (x_b (fX0_isOfKind M_6 (xr 0 (xr 0 (xr 0 k0 0) 7) a1.toNatClampNeg) a2) fun v_15 M_13 => x_b (fX10_oneIf M_13 v_15) fun v_18 M_16 => some (v_18, M_16))))
set_option maxRecDepth 100000 in
set_option maxHeartbeats 4000000 in
theorem mX10_isOf (l : Launch) (g : xG) {k0 : Nat} {a1 : Int32} {a2 : Int32} {r : Int32} {M' : xM} (h0 : x_is 0 k0 10) {M : xM} (hf : fX10_isOf M k0 a1 a2 = some (r, M')) : x_cI l g 0 yX10_isOf cX10_isOf 3 .int 2 43 [.ref (g.2.2.1 k0), .int a1, .int a2] M (fun v N => v = r ∧ N = M') := by
  refine x_stI RX10 (by decide) rfl (Nat.le_of_ble_eq_true rfl) ?_
  intro p e s m args below meth c Q ls C hw ret hl
  obtain ⟨hx, hb, hml, hown, hB, -⟩ := id C
  have hl : lv_has ls 3 [(0, .ref (g.2.2.1 k0)), (1, .int a1), (2, .int a2)] := hl
  unfold fX10_isOf at hf
  refine lv_aload_n hx hb dX10_isOf_0 rfl (lv_at hl 0 rfl) ?_
  refine fg_X10_10 C hw h0 dX10_isOf_1 ?_
  have h_1 : x_is 0 (xr 0 k0 0) 8 := x_tr h0 (by decide) (by decide) rfl (by decide)
  refine lv_iload_n hx hb dX10_isOf_4 rfl (lv_at hl 1 rfl) ?_
  obtain ⟨tv_4, tM_2, c_3, hf⟩ := x_bE hf
  refine x_vI C hw hl.1 [.int a1] [] (mX8_hasDeed l g h_1 c_3) lk_X10_143 h_1 (by decide) rfl (by decide) rfl (Nat.le_of_ble_eq_true rfl) ⟨Nat.zero_le _, Nat.zero_le _⟩ dX10_isOf_5 (fun v_4 M_2 H locs hN hw => ?_)
  obtain ⟨rfl, rfl⟩ := hN
  refine lv_if_eq (tgt := 20) hx hb dX10_isOf_8 (by decide) (fun q_5 => ?_) (fun q_5 => ?_)
  · have hf := x_iP hf q_5
    refine lv_ldc hx hb hown (hB _ mk_X10_61) dX10_isOf_20 ?_
    exact ret hf dX10_isOf_22 hw
  · have hf := x_iN hf q_5
    refine lv_iload_n hx hb dX10_isOf_11 rfl (lv_at hl 2 rfl) ?_
    refine lv_iconst (v := (0 : Int32)) hx hb dX10_isOf_12 (by decide) ?_
    refine lv_iconst (v := (3 : Int32)) hx hb dX10_isOf_13 (by decide) ?_
    obtain ⟨tv_8, tM_6, c_7, hf⟩ := x_bE hf
    refine x_sI C hw hl.1 [.int a2, .int (0 : Int32), .int (3 : Int32)] [] (mX10_isWithin l g c_7) lk_X10_57 (by decide) rfl (Nat.le_of_ble_eq_true rfl) ⟨Nat.zero_le _, Nat.zero_le _⟩ dX10_isOf_14 (fun v_8 M_6 H locs hN hw => ?_)
    obtain ⟨rfl, rfl⟩ := hN
    refine lv_if_ne (tgt := 23) hx hb dX10_isOf_17 (by decide) (fun q_9 => ?_) (fun q_9 => ?_)
    · have hf := x_iN hf q_9
      refine lv_aload_n hx hb dX10_isOf_23 rfl (lv_at hl 0 rfl) ?_
      refine fg_X10_10 C hw h0 dX10_isOf_24 ?_
      refine fg_X10_134 C hw h_1 dX10_isOf_27 ?_
      have h_10 : x_is 0 (xr 0 (xr 0 k0 0) 7) 14 := x_tr h_1 (by decide) (by decide) rfl (by decide)
      refine lv_iload_n hx hb dX10_isOf_30 rfl (lv_at hl 1 rfl) ?_
      obtain ⟨q_11, hf⟩ := x_gE hf
      refine x_rld (t := 2) C hw h_10 (by decide) rfl q_11 dX10_isOf_31 ?_
      have h_12 : x_is 0 (xr 0 (xr 0 (xr 0 k0 0) 7) a1.toNatClampNeg) 0 := x_ta h_10 (by decide) (x_ilt q_11)
      refine lv_iload_n hx hb dX10_isOf_32 rfl (lv_at hl 2 rfl) ?_
      obtain ⟨tv_15, tM_13, c_14, hf⟩ := x_bE hf
      refine x_vI C hw hl.1 [.int a2] [] (mX0_isOfKind l g h_12 c_14) lk_X10_146 h_12 (by decide) rfl (by decide) rfl (Nat.le_of_ble_eq_true rfl) ⟨Nat.zero_le _, Nat.zero_le _⟩ dX10_isOf_33 (fun v_15 M_13 H locs hN hw => ?_)
      obtain ⟨rfl, rfl⟩ := hN
      obtain ⟨tv_18, tM_16, c_17, hf⟩ := x_bE hf
      refine x_sI C hw hl.1 [.int v_15] [] (mX10_oneIf l g c_17) lk_X10_83 (by decide) rfl (Nat.le_of_ble_eq_true rfl) ⟨Nat.zero_le _, Nat.zero_le _⟩ dX10_isOf_36 (fun v_18 M_16 H locs hN hw => ?_)
      obtain ⟨rfl, rfl⟩ := hN
      exact ret hf dX10_isOf_39 hw
    · have hf := x_iP hf q_9
      refine lv_ldc hx hb hown (hB _ mk_X10_61) dX10_isOf_20 ?_
      exact ret hf dX10_isOf_22 hw
def fX10_told (M : xM) (k0 : Nat) (a1 : Int32) (a2 : Int32) : Option (Int32 × xM) := x_b (fX8_hasDeed M (xr 0 k0 0) a1) fun v_4 M_2 => if v_4 = 0 then (some ((-1000000001 : Int32), M_2)) else (x_g a1 (xn 0 (xr 0 (xr 0 k0 0) 7)) (if a2 = (0 : Int32) then (some ((M_2 (xr 0 (xr 0 (xr 0 k0 0) 7) a1.toNatClampNeg) 0), M_2)) else (if a2 = (1 : Int32) then (some ((M_2 (xr 0 (xr 0 (xr 0 k0 0) 7) a1.toNatClampNeg) 1), M_2)) else (if a2 = (2 : Int32) then (some ((M_2 (xr 0 (xr 0 (xr 0 k0 0) 7) a1.toNatClampNeg) 2), M_2)) else (if a2 = (3 : Int32) then (some ((M_2 (xr 0 (xr 0 (xr 0 k0 0) 7) a1.toNatClampNeg) 3), M_2)) else (if a2 = (4 : Int32) then (x_b (fX8_pastOf M_2 (xr 0 k0 0) (xr 0 (xr 0 (xr 0 k0 0) 7) a1.toNatClampNeg)) fun v_16 M_14 => some (v_16, M_14)) else (if a2 = (5 : Int32) then (x_b (fX0_isJudged M_2 (xr 0 (xr 0 (xr 0 k0 0) 7) a1.toNatClampNeg)) fun v_20 M_18 => if v_20 = 0 then (some ((-1000000005 : Int32), M_18)) else (some ((M_18 (xr 0 (xr 0 (xr 0 k0 0) 7) a1.toNatClampNeg) 4), M_18))) else (some ((-1000000001 : Int32), M_2)))))))))
set_option maxRecDepth 100000 in
set_option maxHeartbeats 4000000 in
theorem mX10_told (l : Launch) (g : xG) {k0 : Nat} {a1 : Int32} {a2 : Int32} {r : Int32} {M' : xM} (h0 : x_is 0 k0 10) {M : xM} (hf : fX10_told M k0 a1 a2 = some (r, M')) : x_cI l g 0 yX10_told cX10_told 4 .int 2 46 [.ref (g.2.2.1 k0), .int a1, .int a2] M (fun v N => v = r ∧ N = M') := by
  refine x_stI RX10 (by decide) rfl (Nat.le_of_ble_eq_true rfl) ?_
  intro p e s m args below meth c Q ls C hw ret hl
  obtain ⟨hx, hb, hml, hown, hB, -⟩ := id C
  have hl : lv_has ls 4 [(0, .ref (g.2.2.1 k0)), (1, .int a1), (2, .int a2)] := hl
  unfold fX10_told at hf
  refine lv_aload_n hx hb dX10_told_0 rfl (lv_at hl 0 rfl) ?_
  refine fg_X10_10 C hw h0 dX10_told_1 ?_
  have h_1 : x_is 0 (xr 0 k0 0) 8 := x_tr h0 (by decide) (by decide) rfl (by decide)
  refine lv_iload_n hx hb dX10_told_4 rfl (lv_at hl 1 rfl) ?_
  obtain ⟨tv_4, tM_2, c_3, hf⟩ := x_bE hf
  refine x_vI C hw hl.1 [.int a1] [] (mX8_hasDeed l g h_1 c_3) lk_X10_143 h_1 (by decide) rfl (by decide) rfl (Nat.le_of_ble_eq_true rfl) ⟨Nat.zero_le _, Nat.zero_le _⟩ dX10_told_5 (fun v_4 M_2 H locs hN hw => ?_)
  obtain ⟨rfl, rfl⟩ := hN
  refine lv_if_ne (tgt := 14) hx hb dX10_told_8 (by decide) (fun q_5 => ?_) (fun q_5 => ?_)
  · have hf := x_iN hf q_5
    refine lv_aload_n hx hb dX10_told_14 rfl (lv_at hl 0 rfl) ?_
    refine fg_X10_10 C hw h0 dX10_told_15 ?_
    refine fg_X10_134 C hw h_1 dX10_told_18 ?_
    have h_6 : x_is 0 (xr 0 (xr 0 k0 0) 7) 14 := x_tr h_1 (by decide) (by decide) rfl (by decide)
    refine lv_iload_n hx hb dX10_told_21 rfl (lv_at hl 1 rfl) ?_
    obtain ⟨q_7, hf⟩ := x_gE hf
    refine x_rld (t := 2) C hw h_6 (by decide) rfl q_7 dX10_told_22 ?_
    have h_8 : x_is 0 (xr 0 (xr 0 (xr 0 k0 0) 7) a1.toNatClampNeg) 0 := x_ta h_6 (by decide) (x_ilt q_7)
    refine lv_astore_n (lv' := [(3, .ref (g.2.2.1 (xr 0 (xr 0 (xr 0 k0 0) 7) a1.toNatClampNeg))), (0, .ref (g.2.2.1 k0)), (1, .int a1), (2, .int a2)]) hx hb dX10_told_23 rfl hl (by decide) rfl (fun ls hl => ?_)
    refine lv_iload_n hx hb dX10_told_24 rfl (lv_at hl 3 rfl) ?_
    by_cases q_9 : a2 = (0 : Int32)
    · have hf := x_iP hf q_9
      refine lv_tableIn (off := 39) (tgt := 64) hx hb dX10_told_25 (by rw [q_9]; decide) (by rw [q_9]; decide) (by rw [q_9]; rfl) (by decide) ?_
      refine lv_aload_n hx hb dX10_told_64 rfl (lv_at hl 0 rfl) ?_
      refine fg_X10_147 C hw h_8 dX10_told_65 ?_
      exact ret hf dX10_told_68 hw
    have hf := x_iN hf q_9
    by_cases q_10 : a2 = (1 : Int32)
    · have hf := x_iP hf q_10
      refine lv_tableIn (off := 44) (tgt := 69) hx hb dX10_told_25 (by rw [q_10]; decide) (by rw [q_10]; decide) (by rw [q_10]; rfl) (by decide) ?_
      refine lv_aload_n hx hb dX10_told_69 rfl (lv_at hl 0 rfl) ?_
      refine fg_X10_150 C hw h_8 dX10_told_70 ?_
      exact ret hf dX10_told_73 hw
    have hf := x_iN hf q_10
    by_cases q_11 : a2 = (2 : Int32)
    · have hf := x_iP hf q_11
      refine lv_tableIn (off := 49) (tgt := 74) hx hb dX10_told_25 (by rw [q_11]; decide) (by rw [q_11]; decide) (by rw [q_11]; rfl) (by decide) ?_
      refine lv_aload_n hx hb dX10_told_74 rfl (lv_at hl 0 rfl) ?_
      refine fg_X10_153 C hw h_8 dX10_told_75 ?_
      exact ret hf dX10_told_78 hw
    have hf := x_iN hf q_11
    by_cases q_12 : a2 = (3 : Int32)
    · have hf := x_iP hf q_12
      refine lv_tableIn (off := 54) (tgt := 79) hx hb dX10_told_25 (by rw [q_12]; decide) (by rw [q_12]; decide) (by rw [q_12]; rfl) (by decide) ?_
      refine lv_aload_n hx hb dX10_told_79 rfl (lv_at hl 0 rfl) ?_
      refine fg_X10_156 C hw h_8 dX10_told_80 ?_
      exact ret hf dX10_told_83 hw
    have hf := x_iN hf q_12
    by_cases q_13 : a2 = (4 : Int32)
    · have hf := x_iP hf q_13
      refine lv_tableIn (off := 59) (tgt := 84) hx hb dX10_told_25 (by rw [q_13]; decide) (by rw [q_13]; decide) (by rw [q_13]; rfl) (by decide) ?_
      refine lv_aload_n hx hb dX10_told_84 rfl (lv_at hl 1 rfl) ?_
      refine fg_X10_10 C hw h0 dX10_told_85 ?_
      refine lv_aload_n hx hb dX10_told_88 rfl (lv_at hl 0 rfl) ?_
      obtain ⟨tv_16, tM_14, c_15, hf⟩ := x_bE hf
      refine x_vI C hw hl.1 [.ref (g.2.2.1 (xr 0 (xr 0 (xr 0 k0 0) 7) a1.toNatClampNeg))] [] (mX8_pastOf l g h_1 h_8 c_15) lk_X10_159 h_1 (by decide) rfl (by decide) rfl (Nat.le_of_ble_eq_true rfl) ⟨Nat.zero_le _, Nat.zero_le _⟩ dX10_told_89 (fun v_16 M_14 H locs hN hw => ?_)
      obtain ⟨rfl, rfl⟩ := hN
      exact ret hf dX10_told_92 hw
    have hf := x_iN hf q_13
    by_cases q_17 : a2 = (5 : Int32)
    · have hf := x_iP hf q_17
      refine lv_tableIn (off := 68) (tgt := 93) hx hb dX10_told_25 (by rw [q_17]; decide) (by rw [q_17]; decide) (by rw [q_17]; rfl) (by decide) ?_
      refine lv_aload_n hx hb dX10_told_93 rfl (lv_at hl 0 rfl) ?_
      obtain ⟨tv_20, tM_18, c_19, hf⟩ := x_bE hf
      refine x_vI C hw hl.1 [] [] (mX0_isJudged l g h_8 c_19) lk_X10_163 h_8 (by decide) rfl (by decide) rfl (Nat.le_of_ble_eq_true rfl) ⟨Nat.zero_le _, Nat.zero_le _⟩ dX10_told_94 (fun v_20 M_18 H locs hN hw => ?_)
      obtain ⟨rfl, rfl⟩ := hN
      refine lv_if_eq (tgt := 107) hx hb dX10_told_97 (by decide) (fun q_21 => ?_) (fun q_21 => ?_)
      · have hf := x_iP hf q_21
        refine lv_ldc hx hb hown (hB _ mk_X10_169) dX10_told_107 ?_
        exact ret hf dX10_told_109 hw
      · have hf := x_iN hf q_21
        refine lv_aload_n hx hb dX10_told_100 rfl (lv_at hl 0 rfl) ?_
        refine fg_X10_166 C hw h_8 dX10_told_101 ?_
        refine lv_goto (tgt := 109) hx hb dX10_told_104 (by decide) ?_
        exact ret hf dX10_told_109 hw
    have hf := x_iN hf q_17
    have tq_9 := lv_neT (a := 0) q_9 rfl
    have tq_10 := lv_neT (a := 1) q_10 rfl
    have tq_11 := lv_neT (a := 2) q_11 rfl
    have tq_12 := lv_neT (a := 3) q_12 rfl
    have tq_13 := lv_neT (a := 4) q_13 rfl
    have tq_17 := lv_neT (a := 5) q_17 rfl
    refine lv_tableOut (tgt := 110) hx hb dX10_told_25 (by omega) (by decide) ?_
    refine lv_ldc hx hb hown (hB _ mk_X10_61) dX10_told_110 ?_
    exact ret hf dX10_told_112 hw
  · have hf := x_iP hf q_5
    refine lv_ldc hx hb hown (hB _ mk_X10_61) dX10_told_11 ?_
    exact ret hf dX10_told_13 hw
