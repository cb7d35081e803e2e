noncomputable def fX5_setPays_L9  : Nat → xM → Int32 → Int32 → Option (xM)
  | 0, _, _, _ => none
  | n_5 + 1, M_4, x2_2, x3_3 => if (24 : Int32) ≤ x3_3 then (some M_4) else (x_g x3_3 24 (x_g x3_3 24 (x_l (x_up M_4 18 x3_3.toNatClampNeg (if (if (M_4 4 2) < (M_4 17 x3_3.toNatClampNeg) then (M_4 4 2) else (M_4 17 x3_3.toNatClampNeg)) < x2_2 then (if (M_4 4 2) < (M_4 17 x3_3.toNatClampNeg) then (M_4 4 2) else (M_4 17 x3_3.toNatClampNeg)) else x2_2)) fun M_10 => x_g x3_3 24 (x_l (x2_2 - (M_10 18 x3_3.toNatClampNeg)) fun x2_12 => x_g x3_3 24 (x_l (fun (M_15 : xM) => x_l (x3_3 + (1 : Int32)) fun x3_16 => fX5_setPays_L9 n_5 M_15 x2_12 x3_16) fun k63_14 => if (M_10 18 x3_3.toNatClampNeg) ≤ 0 then (k63_14 M_10) else (x_l (x_up M_10 4 3 (x3_3 + (1 : Int32))) fun M_18 => k63_14 M_18))))))
noncomputable def fX5_setPays (M : xM) (a1 : Int32) : Option (xM) := x_l (x_up M 4 3 (0 : Int32)) fun M_1 => fX5_setPays_L9 x_FU M_1 a1 (0 : Int32)
set_option maxRecDepth 100000 in
set_option maxHeartbeats 4000000 in
theorem mX5_setPays (l : Launch) (g : xG) {a1 : Int32} {M' : xM}  {M : xM} (hf : fX5_setPays M a1 = some M') : x_cV l g 0 yX5_setPays cX5_setPays 4 1 23 [.ref (g.2.2.1 4), .int a1] M (fun N => N = M') := by
  refine x_stV RX5 (by decide) rfl (Nat.le_of_ble_eq_true rfl) ?_
  intro p e s m args below meth c Q ls C hw ret hl
  obtain ⟨hx, hb, hml, hown, hB, -⟩ := id C
  have hl : lv_has ls 4 [(0, .ref (g.2.2.1 4)), (1, .int a1)] := hl
  unfold fX5_setPays at hf
  refine lv_iload_n hx hb dX5_setPays_0 rfl (lv_at hl 1 rfl) ?_
  refine lv_istore_n (lv' := [(2, .int a1), (0, .ref (g.2.2.1 4)), (1, .int a1)]) hx hb dX5_setPays_1 rfl hl (by decide) rfl (fun ls hl => ?_)
  refine lv_aload_n hx hb dX5_setPays_2 rfl (lv_at hl 1 rfl) ?_
  refine lv_iconst (v := (0 : Int32)) hx hb dX5_setPays_3 (by decide) ?_
  refine fp_X5_22 C hw ic0_4 dX5_setPays_4 (fun H locs hw => ?_)
  obtain ⟨M_1, eM_1⟩ : ∃ z, z = (x_up M 4 3 (0 : Int32)) := ⟨_, rfl⟩
  rw [← eM_1] at hw
  have hf := x_lE eM_1 hf
  refine lv_iconst (v := (0 : Int32)) hx hb dX5_setPays_7 (by decide) ?_
  refine lv_istore_n (lv' := [(3, .int (0 : Int32)), (2, .int a1), (0, .ref (g.2.2.1 4)), (1, .int a1)]) hx hb dX5_setPays_8 rfl hl (by decide) rfl (fun ls hl => ?_)
  have hL_19 : ∀ (n_5 : Nat) (H : Heap) (locs : List Loc) (M_4 : xM) (x2_2 : Int32) (x3_3 : Int32) (ls : Array Slot) , lv_has ls 4 [(0, .ref (g.2.2.1 4)), (2, .int x2_2), (3, .int x3_3)] → x_w g 0 s H locs M_4 → fX5_setPays_L9 n_5 M_4 x2_2 x3_3 = some M' → W p l e (x_rm 1 23) s m args below meth c H locs 0 0 Q (F0 m 9 ls []) := by
    intro n_5
    induction n_5 with
    | zero =>
      intro H locs M_4 x2_2 x3_3 ls  hl hw hf
      rw [fX5_setPays_L9] at hf
      cases hf
    | succ n_5 ih_6 =>
      intro H locs M_4 x2_2 x3_3 ls  hl hw hf
      rw [fX5_setPays_L9] at hf
      refine lv_iload_n hx hb dX5_setPays_9 rfl (lv_at hl 2 rfl) ?_
      refine lv_bipush (v := (24 : Int32)) hx hb dX5_setPays_10 (by decide) ?_
      refine lv_icmp_ge (tgt := 69) hx hb dX5_setPays_12 (by decide) (fun q_7 => ?_) (fun q_7 => ?_)
      · have hf := x_iP hf q_7
        exact ret hf dX5_setPays_69 hw
      · have hf := x_iN hf q_7
        refine lv_aload_n hx hb dX5_setPays_15 rfl (lv_at hl 0 rfl) ?_
        refine fg_X5_15 (k2 := 18) C hw ic0_4 rfl dX5_setPays_16 ?_
        refine lv_iload_n hx hb dX5_setPays_19 rfl (lv_at hl 2 rfl) ?_
        refine lv_iload_n hx hb dX5_setPays_20 rfl (lv_at hl 1 rfl) ?_
        refine lv_aload_n hx hb dX5_setPays_21 rfl (lv_at hl 0 rfl) ?_
        refine fg_X5_9 (k2 := 17) C hw ic0_4 rfl dX5_setPays_22 ?_
        refine lv_iload_n hx hb dX5_setPays_25 rfl (lv_at hl 2 rfl) ?_
        obtain ⟨q_8, hf⟩ := x_gE hf
        refine x_ald C hw ic0_17 q_8 rfl dX5_setPays_26 ?_
        refine lv_aload_n hx hb dX5_setPays_27 rfl (lv_at hl 0 rfl) ?_
        refine fg_X5_18 C hw ic0_4 dX5_setPays_28 ?_
        refine mm_X5_83 C hl.1 (Nat.le_of_ble_eq_true rfl) (Nat.le_of_ble_eq_true rfl) ⟨Nat.zero_le _, Nat.zero_le _⟩ dX5_setPays_31 ?_
        refine mm_X5_83 C hl.1 (Nat.le_of_ble_eq_true rfl) (Nat.le_of_ble_eq_true rfl) ⟨Nat.zero_le _, Nat.zero_le _⟩ dX5_setPays_34 ?_
        obtain ⟨q_9, hf⟩ := x_gE hf
        refine x_ast C hw ic0_18 q_9 rfl dX5_setPays_37 (fun H locs hw => ?_)
        obtain ⟨M_10, eM_10⟩ : ∃ z, z = (x_up M_4 18 x3_3.toNatClampNeg (if (if (M_4 4 2) < (M_4 17 x3_3.toNatClampNeg) then (M_4 4 2) else (M_4 17 x3_3.toNatClampNeg)) < x2_2 then (if (M_4 4 2) < (M_4 17 x3_3.toNatClampNeg) then (M_4 4 2) else (M_4 17 x3_3.toNatClampNeg)) else x2_2)) := ⟨_, rfl⟩
        rw [← eM_10] at hw
        have hf := x_lE eM_10 hf
        refine lv_iload_n hx hb dX5_setPays_38 rfl (lv_at hl 1 rfl) ?_
        refine lv_aload_n hx hb dX5_setPays_39 rfl (lv_at hl 0 rfl) ?_
        refine fg_X5_15 (k2 := 18) C hw ic0_4 rfl dX5_setPays_40 ?_
        refine lv_iload_n hx hb dX5_setPays_43 rfl (lv_at hl 2 rfl) ?_
        obtain ⟨q_11, hf⟩ := x_gE hf
        refine x_ald C hw ic0_18 q_11 rfl dX5_setPays_44 ?_
        refine lv_isub hx hb dX5_setPays_45 ?_
        refine lv_topi (fun x2_12 ex2_12 => ?_)
        have hf := x_lE ex2_12 hf
        refine lv_istore_n (lv' := [(2, .int x2_12), (0, .ref (g.2.2.1 4)), (3, .int x3_3)]) hx hb dX5_setPays_46 rfl hl (by decide) rfl (fun ls hl => ?_)
        refine lv_aload_n hx hb dX5_setPays_47 rfl (lv_at hl 1 rfl) ?_
        refine fg_X5_15 (k2 := 18) C hw ic0_4 rfl dX5_setPays_48 ?_
        refine lv_iload_n hx hb dX5_setPays_51 rfl (lv_at hl 2 rfl) ?_
        obtain ⟨q_13, hf⟩ := x_gE hf
        refine x_ald C hw ic0_18 q_13 rfl dX5_setPays_52 ?_
        obtain ⟨k63_14, ek63_14, hf⟩ := x_jE hf
        have hk63_14 : ∀ (H : Heap) (locs : List Loc) (M_15 : xM)  (ls : Array Slot) , lv_has ls 4 [(2, .int x2_12), (0, .ref (g.2.2.1 4)), (3, .int x3_3)] → x_w g 0 s H locs M_15 → k63_14 M_15 = some M' → W p l e (x_rm 1 23) s m args below meth c H locs 0 0 Q (F0 m 63 ls []) := by
          intro H locs M_15  ls  hl hw hf
          rw [ek63_14] at hf
          obtain ⟨x3_16, ex3_16⟩ : ∃ z : Int32, z = (x3_3 + (1 : Int32)) := ⟨_, rfl⟩
          have hf := x_lE ex3_16 hf
          refine lv_iinc (v := x3_16) (lv' := [(3, .int x3_16), (2, .int x2_12), (0, .ref (g.2.2.1 4))]) hx hb dX5_setPays_63 hl (k := 2) rfl (by rw [ex3_16]; rfl) (by decide) rfl (fun ls hl => ?_)
          refine lv_goto (tgt := 9) hx hb dX5_setPays_66 (by decide) ?_
          exact ih_6 _ _ _ _ _ _ (lv_sub hl [2, 1, 0] rfl) hw hf
        refine lv_if_le (tgt := 63) hx hb dX5_setPays_53 (by decide) (fun q_17 => ?_) (fun q_17 => ?_)
        · have hf := x_iP hf q_17
          exact hk63_14 _ _ _ _ (lv_sub hl [0, 1, 2] rfl) hw hf
        · have hf := x_iN hf q_17
          refine lv_aload_n hx hb dX5_setPays_56 rfl (lv_at hl 1 rfl) ?_
          refine lv_iload_n hx hb dX5_setPays_57 rfl (lv_at hl 2 rfl) ?_
          refine lv_iconst (v := (1 : Int32)) hx hb dX5_setPays_58 (by decide) ?_
          refine lv_iadd hx hb dX5_setPays_59 ?_
          refine fp_X5_22 C hw ic0_4 dX5_setPays_60 (fun H locs hw => ?_)
          obtain ⟨M_18, eM_18⟩ : ∃ z, z = (x_up M_10 4 3 (x3_3 + (1 : Int32))) := ⟨_, rfl⟩
          rw [← eM_18] at hw
          have hf := x_lE eM_18 hf
          exact hk63_14 _ _ _ _ (lv_sub hl [0, 1, 2] rfl) hw hf
  exact hL_19 _ _ _ _ _ _ _ (lv_sub hl [2, 1, 0] rfl) hw hf
noncomputable def fX5_isFound_L12 (a2 : Int32) (v_3 : Int32) (k61_5 : xM → Int32 → Option (Int32 × xM)) : Nat → xM → Int32 → Int32 → Option (Int32 × xM)
  | 0, _, _, _ => none
  | n_20 + 1, M_19, x4_17, x5_18 => if (24 : Int32) ≤ x5_18 then (k61_5 M_19 x4_17) else (x_l (fun (M_25 : xM) (z_23 : Int32) => x_g x5_18 24 (x_l (x_up M_25 17 x5_18.toNatClampNeg z_23) fun M_27 => x_g x5_18 24 (x_l (if x4_17 < (M_27 17 x5_18.toNatClampNeg) then (M_27 17 x5_18.toNatClampNeg) else x4_17) fun x4_29 => x_l (x5_18 + (1 : Int32)) fun x5_30 => fX5_isFound_L12 a2 v_3 k61_5 n_20 M_27 x4_29 x5_30))) fun k40_24 => if v_3 = 0 then (k40_24 M_19 (0 : Int32)) else (x_b (fX8_roomOf M_19 a2 x5_18) fun v_34 M_32 => k40_24 M_32 v_34))
noncomputable def fX5_isFound (M : xM) (a2 : Int32) : Option (Int32 × xM) := x_b (fX5_owedIn M a2) fun v_3 M_1 => x_l (fun (M_6 : xM) (x4_4 : Int32) => x_b (fX5_holds M_6 a2 x4_4) fun v_9 M_7 => if v_9 = 0 then (some ((0 : Int32), M_7)) else (x_b (fX5_leastUpTo M_7 x4_4 a2) fun v_13 M_11 => x_l (x_up M_11 4 2 v_13) fun M_14 => x_v (fX5_setPays M_14 v_3) fun M_15 => some ((1 : Int32), M_15))) fun k61_5 => fX5_isFound_L12 a2 v_3 k61_5 x_FU M_1 (0 : Int32) (0 : Int32)
set_option maxRecDepth 100000 in
set_option maxHeartbeats 4000000 in
theorem mX5_isFound (l : Launch) (g : xG) {a2 : Int32} {r : Int32} {M' : xM}  {M : xM} (hf : fX5_isFound M a2 = some (r, M')) : x_cI l g 0 yX5_isFound cX5_isFound 6 .boolean 5 124 [.ref (g.2.2.1 4), .ref (g.2.2.1 1), .int a2] M (fun v N => v = r ∧ N = M') := by
  refine x_stZ RX5 (by decide) rfl (Nat.le_of_ble_eq_true rfl) ?_
  intro p e s m args below meth c Q ls C hw ret hl
  obtain ⟨hx, hb, hml, hown, hB, -⟩ := id C
  have hl : lv_has ls 6 [(0, .ref (g.2.2.1 4)), (1, .ref (g.2.2.1 1)), (2, .int a2)] := hl
  unfold fX5_isFound at hf
  refine lv_aload_n hx hb dX5_isFound_0 rfl (lv_at hl 1 rfl) ?_
  refine lv_iload_n hx hb dX5_isFound_1 rfl (lv_at hl 2 rfl) ?_
  obtain ⟨tv_3, tM_1, c_2, hf⟩ := x_bE hf
  refine x_sI C hw hl.1 [.ref (g.2.2.1 1), .int a2] [] (mX5_owedIn l g c_2) lk_X5_25 (by decide) rfl (Nat.le_of_ble_eq_true rfl) ⟨Nat.zero_le _, Nat.zero_le _⟩ dX5_isFound_2 (fun v_3 M_1 H locs hN hw => ?_)
  obtain ⟨rfl, rfl⟩ := hN
  refine lv_istore_n (lv' := [(3, .int v_3), (0, .ref (g.2.2.1 4)), (1, .ref (g.2.2.1 1)), (2, .int a2)]) hx hb dX5_isFound_5 rfl hl (by decide) rfl (fun ls hl => ?_)
  refine lv_iconst (v := (0 : Int32)) hx hb dX5_isFound_6 (by decide) ?_
  refine lv_istore (lv' := [(4, .int (0 : Int32)), (3, .int v_3), (0, .ref (g.2.2.1 4)), (1, .ref (g.2.2.1 1)), (2, .int a2)]) hx hb dX5_isFound_7 hl (by decide) rfl (fun ls hl => ?_)
  refine lv_iconst (v := (0 : Int32)) hx hb dX5_isFound_9 (by decide) ?_
  refine lv_istore (lv' := [(5, .int (0 : Int32)), (4, .int (0 : Int32)), (3, .int v_3), (0, .ref (g.2.2.1 4)), (1, .ref (g.2.2.1 1)), (2, .int a2)]) hx hb dX5_isFound_10 hl (by decide) rfl (fun ls hl => ?_)
  obtain ⟨k61_5, ek61_5, hf⟩ := x_jE hf
  have hk61_5 : ∀ (H : Heap) (locs : List Loc) (M_6 : xM) (x4_4 : Int32) (ls : Array Slot) , lv_has ls 6 [(3, .int v_3), (0, .ref (g.2.2.1 4)), (1, .ref (g.2.2.1 1)), (2, .int a2), (4, .int x4_4)] → x_w g 0 s H locs M_6 → k61_5 M_6 x4_4 = some (r, M') → W p l e (x_rm 5 124) s m args below meth c H locs 0 0 Q (F0 m 61 ls []) := by
    intro H locs M_6 x4_4 ls  hl hw hf
    rw [ek61_5] at hf
    refine lv_aload_n hx hb dX5_isFound_61 rfl (lv_at hl 1 rfl) ?_
    refine lv_aload_n hx hb dX5_isFound_62 rfl (lv_at hl 2 rfl) ?_
    refine lv_iload_n hx hb dX5_isFound_63 rfl (lv_at hl 3 rfl) ?_
    refine lv_iload hx hb dX5_isFound_64 (lv_at hl 4 rfl) ?_
    obtain ⟨tv_9, tM_7, c_8, hf⟩ := x_bE hf
    refine x_vI C hw hl.1 [.ref (g.2.2.1 1), .int a2, .int x4_4] [] (mX5_holds l g c_8) lk_X5_40 ic0_4 (by decide) rfl (by decide) rfl (Nat.le_of_ble_eq_true rfl) ⟨Nat.zero_le _, Nat.zero_le _⟩ dX5_isFound_66 (fun v_9 M_7 H locs hN hw => ?_)
    obtain ⟨rfl, rfl⟩ := hN
    refine lv_if_ne (tgt := 74) hx hb dX5_isFound_69 (by decide) (fun q_10 => ?_) (fun q_10 => ?_)
    · have hf := x_iN hf q_10
      refine lv_aload_n hx hb dX5_isFound_74 rfl (lv_at hl 1 rfl) ?_
      refine lv_aload_n hx hb dX5_isFound_75 rfl (lv_at hl 1 rfl) ?_
      refine lv_iload hx hb dX5_isFound_76 (lv_at hl 4 rfl) ?_
      refine lv_aload_n hx hb dX5_isFound_78 rfl (lv_at hl 2 rfl) ?_
      refine lv_iload_n hx hb dX5_isFound_79 rfl (lv_at hl 3 rfl) ?_
      obtain ⟨tv_13, tM_11, c_12, hf⟩ := x_bE hf
      refine x_vI C hw hl.1 [.int x4_4, .ref (g.2.2.1 1), .int a2] [.ref (g.2.2.1 4)] (mX5_leastUpTo l g c_12) lk_X5_44 ic0_4 (by decide) rfl (by decide) rfl (Nat.le_of_ble_eq_true rfl) ⟨Nat.zero_le _, Nat.zero_le _⟩ dX5_isFound_80 (fun v_13 M_11 H locs hN hw => ?_)
      obtain ⟨rfl, rfl⟩ := hN
      refine fp_X5_18 C hw ic0_4 dX5_isFound_83 (fun H locs hw => ?_)
      obtain ⟨M_14, eM_14⟩ : ∃ z, z = (x_up M_11 4 2 v_13) := ⟨_, rfl⟩
      rw [← eM_14] at hw
      have hf := x_lE eM_14 hf
      refine lv_aload_n hx hb dX5_isFound_86 rfl (lv_at hl 1 rfl) ?_
      refine lv_iload_n hx hb dX5_isFound_87 rfl (lv_at hl 0 rfl) ?_
      obtain ⟨tM_15, c_16, hf⟩ := x_vE hf
      refine x_vV C hw hl.1 [.int v_3] [] (mX5_setPays l g c_16) lk_X5_48 ic0_4 (by decide) rfl (by decide) rfl (Nat.le_of_ble_eq_true rfl) ⟨Nat.zero_le _, Nat.zero_le _⟩ dX5_isFound_88 (fun M_15 H locs hN hw => ?_)
      obtain rfl := hN
      refine lv_iconst (v := (1 : Int32)) hx hb dX5_isFound_91 (by decide) ?_
      exact ret ((x_zl1 _).trans hf) dX5_isFound_92 hw
    · have hf := x_iP hf q_10
      refine lv_iconst (v := (0 : Int32)) hx hb dX5_isFound_72 (by decide) ?_
      exact ret ((x_zl0 _).trans hf) dX5_isFound_73 hw
  have hL_35 : ∀ (n_20 : Nat) (H : Heap) (locs : List Loc) (M_19 : xM) (x4_17 : Int32) (x5_18 : Int32) (ls : Array Slot) , lv_has ls 6 [(3, .int v_3), (0, .ref (g.2.2.1 4)), (1, .ref (g.2.2.1 1)), (2, .int a2), (4, .int x4_17), (5, .int x5_18)] → x_w g 0 s H locs M_19 → fX5_isFound_L12 a2 v_3 k61_5 n_20 M_19 x4_17 x5_18 = some (r, M') → W p l e (x_rm 5 124) s m args below meth c H locs 0 0 Q (F0 m 12 ls []) := by
    intro n_20
    induction n_20 with
    | zero =>
      intro H locs M_19 x4_17 x5_18 ls  hl hw hf
      rw [fX5_isFound_L12] at hf
      cases hf
    | succ n_20 ih_21 =>
      intro H locs M_19 x4_17 x5_18 ls  hl hw hf
      rw [fX5_isFound_L12] at hf
      refine lv_iload hx hb dX5_isFound_12 (lv_at hl 5 rfl) ?_
      refine lv_bipush (v := (24 : Int32)) hx hb dX5_isFound_14 (by decide) ?_
      refine lv_icmp_ge (tgt := 61) hx hb dX5_isFound_16 (by decide) (fun q_22 => ?_) (fun q_22 => ?_)
      · have hf := x_iP hf q_22
        exact hk61_5 _ _ _ _ _ (lv_sub hl [0, 1, 2, 3, 4] rfl) hw hf
      · have hf := x_iN hf q_22
        refine lv_aload_n hx hb dX5_isFound_19 rfl (lv_at hl 1 rfl) ?_
        refine fg_X5_9 (k2 := 17) C hw ic0_4 rfl dX5_isFound_20 ?_
        refine lv_iload hx hb dX5_isFound_23 (lv_at hl 5 rfl) ?_
        refine lv_iload_n hx hb dX5_isFound_25 rfl (lv_at hl 0 rfl) ?_
        obtain ⟨k40_24, ek40_24, hf⟩ := x_jE hf
        have hk40_24 : ∀ (H : Heap) (locs : List Loc) (M_25 : xM) (z_23 : Int32) (ls : Array Slot) , lv_has ls 6 [(3, .int v_3), (0, .ref (g.2.2.1 4)), (1, .ref (g.2.2.1 1)), (2, .int a2), (4, .int x4_17), (5, .int x5_18)] → x_w g 0 s H locs M_25 → k40_24 M_25 z_23 = some (r, M') → W p l e (x_rm 5 124) s m args below meth c H locs 0 0 Q (F0 m 40 ls [.int z_23, .int x5_18, .ref (g.2.2.1 17)]) := by
          intro H locs M_25 z_23 ls  hl hw hf
          rw [ek40_24] at hf
          obtain ⟨q_26, hf⟩ := x_gE hf
          refine x_ast C hw ic0_17 q_26 rfl dX5_isFound_40 (fun H locs hw => ?_)
          obtain ⟨M_27, eM_27⟩ : ∃ z, z = (x_up M_25 17 x5_18.toNatClampNeg z_23) := ⟨_, rfl⟩
          rw [← eM_27] at hw
          have hf := x_lE eM_27 hf
          refine lv_iload hx hb dX5_isFound_41 (lv_at hl 4 rfl) ?_
          refine lv_aload_n hx hb dX5_isFound_43 rfl (lv_at hl 1 rfl) ?_
          refine fg_X5_9 (k2 := 17) C hw ic0_4 rfl dX5_isFound_44 ?_
          refine lv_iload hx hb dX5_isFound_47 (lv_at hl 5 rfl) ?_
          obtain ⟨q_28, hf⟩ := x_gE hf
          refine x_ald C hw ic0_17 q_28 rfl dX5_isFound_49 ?_
          refine mm_X5_35 C hl.1 (Nat.le_of_ble_eq_true rfl) (Nat.le_of_ble_eq_true rfl) ⟨Nat.zero_le _, Nat.zero_le _⟩ dX5_isFound_50 ?_
          refine lv_topi (fun x4_29 ex4_29 => ?_)
          have hf := x_lE ex4_29 hf
          refine lv_istore (lv' := [(4, .int x4_29), (3, .int v_3), (0, .ref (g.2.2.1 4)), (1, .ref (g.2.2.1 1)), (2, .int a2), (5, .int x5_18)]) hx hb dX5_isFound_53 hl (by decide) rfl (fun ls hl => ?_)
          obtain ⟨x5_30, ex5_30⟩ : ∃ z : Int32, z = (x5_18 + (1 : Int32)) := ⟨_, rfl⟩
          have hf := x_lE ex5_30 hf
          refine lv_iinc (v := x5_30) (lv' := [(5, .int x5_30), (4, .int x4_29), (3, .int v_3), (0, .ref (g.2.2.1 4)), (1, .ref (g.2.2.1 1)), (2, .int a2)]) hx hb dX5_isFound_55 hl (k := 5) rfl (by rw [ex5_30]; rfl) (by decide) rfl (fun ls hl => ?_)
          refine lv_goto (tgt := 12) hx hb dX5_isFound_58 (by decide) ?_
          exact ih_21 _ _ _ _ _ _ (lv_sub hl [2, 3, 4, 5, 1, 0] rfl) hw hf
        refine lv_if_ne (tgt := 33) hx hb dX5_isFound_26 (by decide) (fun q_31 => ?_) (fun q_31 => ?_)
        · have hf := x_iN hf q_31
          refine lv_aload_n hx hb dX5_isFound_33 rfl (lv_at hl 2 rfl) ?_
          refine lv_iload_n hx hb dX5_isFound_34 rfl (lv_at hl 3 rfl) ?_
          refine lv_iload hx hb dX5_isFound_35 (lv_at hl 5 rfl) ?_
          obtain ⟨tv_34, tM_32, c_33, hf⟩ := x_bE hf
          refine x_vI C hw hl.1 [.int a2, .int x5_18] [.int x5_18, .ref (g.2.2.1 17)] (mX8_roomOf l g c_33) lk_X5_29 ic0_1 (by decide) rfl (by decide) rfl (Nat.le_of_ble_eq_true rfl) ⟨Nat.zero_le _, Nat.zero_le _⟩ dX5_isFound_37 (fun v_34 M_32 H locs hN hw => ?_)
          obtain ⟨rfl, rfl⟩ := hN
          exact hk40_24 _ _ _ _ _ (lv_sub hl [0, 1, 2, 3, 4, 5] rfl) hw hf
        · have hf := x_iP hf q_31
          refine lv_iconst (v := (0 : Int32)) hx hb dX5_isFound_29 (by decide) ?_
          refine lv_goto (tgt := 40) hx hb dX5_isFound_30 (by decide) ?_
          exact hk40_24 _ _ _ _ _ (lv_sub hl [0, 1, 2, 3, 4, 5] rfl) hw hf
  exact hL_35 _ _ _ _ _ _ _ (lv_sub hl [2, 3, 4, 5, 1, 0] rfl) hw hf
noncomputable def fX5_firstWrong_L12 (a2 : Int32) (x3_1 : Int32) (k47_3 : xM → Int32 → Option (Int32 × xM)) : Nat → xM → Int32 → Option (Int32 × xM)
  | 0, _, _ => none
  | n_7 + 1, M_6, x4_5 => if x3_1 ≤ x4_5 then (some ((0 : Int32), M_6)) else (if a2 ≤ x4_5 then (k47_3 M_6 x4_5) else (if (M_6 4 3) ≤ x4_5 then (k47_3 M_6 x4_5) else (x_g x4_5 30 (x_g x4_5 24 (if (M_6 5 x4_5.toNatClampNeg) = (M_6 18 x4_5.toNatClampNeg) then (x_l (x4_5 + (1 : Int32)) fun x4_15 => fX5_firstWrong_L12 a2 x3_1 k47_3 n_7 M_6 x4_15) else (k47_3 M_6 x4_5))))))
noncomputable def fX5_firstWrong (M : xM) (a2 : Int32) : Option (Int32 × xM) := x_l (if a2 < (M 4 3) then (M 4 3) else a2) fun x3_1 => x_l (fun (M_4 : xM) (x4_2 : Int32) => some (((1 : Int32) + x4_2), M_4)) fun k47_3 => fX5_firstWrong_L12 a2 x3_1 k47_3 x_FU M (0 : Int32)
set_option maxRecDepth 100000 in
set_option maxHeartbeats 4000000 in
theorem mX5_firstWrong (l : Launch) (g : xG) {a2 : Int32} {r : Int32} {M' : xM}  {M : xM} (hf : fX5_firstWrong M a2 = some (r, M')) : x_cI l g 0 yX5_firstWrong cX5_firstWrong 5 .int 1 23 [.ref (g.2.2.1 4), .ref (g.2.2.1 5), .int a2] M (fun v N => v = r ∧ N = M') := by
  refine x_stI RX5 (by decide) rfl (Nat.le_of_ble_eq_true rfl) ?_
  intro p e s m args below meth c Q ls C hw ret hl
  obtain ⟨hx, hb, hml, hown, hB, -⟩ := id C
  have hl : lv_has ls 5 [(0, .ref (g.2.2.1 4)), (1, .ref (g.2.2.1 5)), (2, .int a2)] := hl
  unfold fX5_firstWrong at hf
  refine lv_iload_n hx hb dX5_firstWrong_0 rfl (lv_at hl 2 rfl) ?_
  refine lv_aload_n hx hb dX5_firstWrong_1 rfl (lv_at hl 0 rfl) ?_
  refine fg_X5_22 C hw ic0_4 dX5_firstWrong_2 ?_
  refine mm_X5_35 C hl.1 (Nat.le_of_ble_eq_true rfl) (Nat.le_of_ble_eq_true rfl) ⟨Nat.zero_le _, Nat.zero_le _⟩ dX5_firstWrong_5 ?_
  refine lv_topi (fun x3_1 ex3_1 => ?_)
  have hf := x_lE ex3_1 hf
  refine lv_istore_n (lv' := [(3, .int x3_1), (0, .ref (g.2.2.1 4)), (1, .ref (g.2.2.1 5)), (2, .int a2)]) hx hb dX5_firstWrong_8 rfl hl (by decide) rfl (fun ls hl => ?_)
  refine lv_iconst (v := (0 : Int32)) hx hb dX5_firstWrong_9 (by decide) ?_
  refine lv_istore (lv' := [(4, .int (0 : Int32)), (3, .int x3_1), (0, .ref (g.2.2.1 4)), (1, .ref (g.2.2.1 5)), (2, .int a2)]) hx hb dX5_firstWrong_10 hl (by decide) rfl (fun ls hl => ?_)
  obtain ⟨k47_3, ek47_3, hf⟩ := x_jE hf
  have hk47_3 : ∀ (H : Heap) (locs : List Loc) (M_4 : xM) (x4_2 : Int32) (ls : Array Slot) , lv_has ls 5 [(4, .int x4_2)] → x_w g 0 s H locs M_4 → k47_3 M_4 x4_2 = some (r, M') → W p l e (x_rm 1 23) s m args below meth c H locs 0 0 Q (F0 m 47 ls []) := by
    intro H locs M_4 x4_2 ls  hl hw hf
    rw [ek47_3] at hf
    refine lv_iconst (v := (1 : Int32)) hx hb dX5_firstWrong_47 (by decide) ?_
    refine lv_iload hx hb dX5_firstWrong_48 (lv_at hl 0 rfl) ?_
    refine lv_iadd hx hb dX5_firstWrong_50 ?_
    exact ret hf dX5_firstWrong_51 hw
  have hL_16 : ∀ (n_7 : Nat) (H : Heap) (locs : List Loc) (M_6 : xM) (x4_5 : Int32) (ls : Array Slot) , lv_has ls 5 [(3, .int x3_1), (0, .ref (g.2.2.1 4)), (1, .ref (g.2.2.1 5)), (2, .int a2), (4, .int x4_5)] → x_w g 0 s H locs M_6 → fX5_firstWrong_L12 a2 x3_1 k47_3 n_7 M_6 x4_5 = some (r, M') → W p l e (x_rm 1 23) s m args below meth c H locs 0 0 Q (F0 m 12 ls []) := by
    intro n_7
    induction n_7 with
    | zero =>
      intro H locs M_6 x4_5 ls  hl hw hf
      rw [fX5_firstWrong_L12] at hf
      cases hf
    | succ n_7 ih_8 =>
      intro H locs M_6 x4_5 ls  hl hw hf
      rw [fX5_firstWrong_L12] at hf
      refine lv_iload hx hb dX5_firstWrong_12 (lv_at hl 4 rfl) ?_
      refine lv_iload_n hx hb dX5_firstWrong_14 rfl (lv_at hl 0 rfl) ?_
      refine lv_icmp_ge (tgt := 58) hx hb dX5_firstWrong_15 (by decide) (fun q_9 => ?_) (fun q_9 => ?_)
      · have hf := x_iP hf q_9
        refine lv_iconst (v := (0 : Int32)) hx hb dX5_firstWrong_58 (by decide) ?_
        exact ret hf dX5_firstWrong_59 hw
      · have hf := x_iN hf q_9
        refine lv_iload hx hb dX5_firstWrong_18 (lv_at hl 4 rfl) ?_
        refine lv_iload_n hx hb dX5_firstWrong_20 rfl (lv_at hl 3 rfl) ?_
        refine lv_icmp_ge (tgt := 47) hx hb dX5_firstWrong_21 (by decide) (fun q_10 => ?_) (fun q_10 => ?_)
        · have hf := x_iP hf q_10
          exact hk47_3 _ _ _ _ _ (lv_sub hl [4] rfl) hw hf
        · have hf := x_iN hf q_10
          refine lv_iload hx hb dX5_firstWrong_24 (lv_at hl 4 rfl) ?_
          refine lv_aload_n hx hb dX5_firstWrong_26 rfl (lv_at hl 1 rfl) ?_
          refine fg_X5_22 C hw ic0_4 dX5_firstWrong_27 ?_
          refine lv_icmp_ge (tgt := 47) hx hb dX5_firstWrong_30 (by decide) (fun q_11 => ?_) (fun q_11 => ?_)
          · have hf := x_iP hf q_11
            exact hk47_3 _ _ _ _ _ (lv_sub hl [4] rfl) hw hf
          · have hf := x_iN hf q_11
            refine lv_aload_n hx hb dX5_firstWrong_33 rfl (lv_at hl 2 rfl) ?_
            refine lv_iload hx hb dX5_firstWrong_34 (lv_at hl 4 rfl) ?_
            obtain ⟨q_12, hf⟩ := x_gE hf
            refine x_ald C hw ic0_5 q_12 rfl dX5_firstWrong_36 ?_
            refine lv_aload_n hx hb dX5_firstWrong_37 rfl (lv_at hl 1 rfl) ?_
            refine fg_X5_15 (k2 := 18) C hw ic0_4 rfl dX5_firstWrong_38 ?_
            refine lv_iload hx hb dX5_firstWrong_41 (lv_at hl 4 rfl) ?_
            obtain ⟨q_13, hf⟩ := x_gE hf
            refine x_ald C hw ic0_18 q_13 rfl dX5_firstWrong_43 ?_
            refine lv_icmp_eq (tgt := 52) hx hb dX5_firstWrong_44 (by decide) (fun q_14 => ?_) (fun q_14 => ?_)
            · have hf := x_iP hf q_14
              obtain ⟨x4_15, ex4_15⟩ : ∃ z : Int32, z = (x4_5 + (1 : Int32)) := ⟨_, rfl⟩
              have hf := x_lE ex4_15 hf
              refine lv_iinc (v := x4_15) (lv' := [(4, .int x4_15), (3, .int x3_1), (0, .ref (g.2.2.1 4)), (1, .ref (g.2.2.1 5)), (2, .int a2)]) hx hb dX5_firstWrong_52 hl (k := 4) rfl (by rw [ex4_15]; rfl) (by decide) rfl (fun ls hl => ?_)
              refine lv_goto (tgt := 12) hx hb dX5_firstWrong_55 (by decide) ?_
              exact ih_8 _ _ _ _ _ (lv_sub hl [1, 2, 3, 4, 0] rfl) hw hf
            · have hf := x_iN hf q_14
              exact hk47_3 _ _ _ _ _ (lv_sub hl [4] rfl) hw hf
  exact hL_16 _ _ _ _ _ _ (lv_sub hl [1, 2, 3, 4, 0] rfl) hw hf
noncomputable def fX9_rewind (M : xM)  : Option (xM) := x_l (x_up M 11 2 (0 : Int32)) fun M_1 => x_l (x_up M_1 11 3 (0 : Int32)) fun M_2 => some M_2
set_option maxRecDepth 100000 in
set_option maxHeartbeats 4000000 in
theorem mX9_rewind (l : Launch) (g : xG)  {M' : xM}  {M : xM} (hf : fX9_rewind M  = some M') : x_cV l g 0 yX9_rewind cX9_rewind 1 0 0 [.ref (g.2.2.1 11)] M (fun N => N = M') := by
  refine x_stV RX9 (by decide) rfl (Nat.le_of_ble_eq_true rfl) ?_
  intro p e s m args below meth c Q ls C hw ret hl
  obtain ⟨hx, hb, hml, hown, hB, -⟩ := id C
  have hl : lv_has ls 1 [(0, .ref (g.2.2.1 11))] := hl
  unfold fX9_rewind at hf
  refine lv_aload_n hx hb dX9_rewind_0 rfl (lv_at hl 0 rfl) ?_
  refine lv_iconst (v := (0 : Int32)) hx hb dX9_rewind_1 (by decide) ?_
  refine fp_X9_19 C hw ic0_11 dX9_rewind_2 (fun H locs hw => ?_)
  obtain ⟨M_1, eM_1⟩ : ∃ z, z = (x_up M 11 2 (0 : Int32)) := ⟨_, rfl⟩
  rw [← eM_1] at hw
  have hf := x_lE eM_1 hf
  refine lv_aload_n hx hb dX9_rewind_5 rfl (lv_at hl 0 rfl) ?_
  refine lv_iconst (v := (0 : Int32)) hx hb dX9_rewind_6 (by decide) ?_
  refine fp_X9_22 C hw ic0_11 dX9_rewind_7 (fun H locs hw => ?_)
  obtain ⟨M_2, eM_2⟩ : ∃ z, z = (x_up M_1 11 3 (0 : Int32)) := ⟨_, rfl⟩
  rw [← eM_2] at hw
  have hf := x_lE eM_2 hf
  exact ret hf dX9_rewind_10 hw
noncomputable def fX6_begin (M : xM)  : Option (xM) := x_v (fX9_rewind M) fun M_1 => x_l (x_up M_1 12 2 (0 : Int32)) fun M_3 => x_l (x_up M_3 12 3 (0 : Int32)) fun M_4 => x_l (x_up M_4 3 3 (0 : Int32)) fun M_5 => x_l (x_up M_5 3 4 (0 : Int32)) fun M_6 => x_l (x_up M_6 3 5 (0 : Int32)) fun M_7 => x_l (x_up M_7 3 6 (-1 : Int32)) fun M_8 => x_l (x_up M_8 3 7 (0 : Int32)) fun M_9 => some M_9
set_option maxRecDepth 100000 in
set_option maxHeartbeats 4000000 in
theorem mX6_begin (l : Launch) (g : xG)  {M' : xM}  {M : xM} (hf : fX6_begin M  = some M') : x_cV l g 0 yX6_begin cX6_begin 1 1 20 [.ref (g.2.2.1 3)] M (fun N => N = M') := by
  refine x_stV RX6 (by decide) rfl (Nat.le_of_ble_eq_true rfl) ?_
  intro p e s m args below meth c Q ls C hw ret hl
  obtain ⟨hx, hb, hml, hown, hB, -⟩ := id C
  have hl : lv_has ls 1 [(0, .ref (g.2.2.1 3))] := hl
  unfold fX6_begin at hf
  refine lv_aload_n hx hb dX6_begin_0 rfl (lv_at hl 0 rfl) ?_
  refine fg_X6_12 (k2 := 11) C hw ic0_3 rfl dX6_begin_1 ?_
  obtain ⟨tM_1, c_2, hf⟩ := x_vE hf
  refine x_vV C hw hl.1 [] [] (mX9_rewind l g c_2) lk_X6_71 ic0_11 (by decide) rfl (by decide) rfl (Nat.le_of_ble_eq_true rfl) ⟨Nat.zero_le _, Nat.zero_le _⟩ dX6_begin_4 (fun M_1 H locs hN hw => ?_)
  obtain rfl := hN
  refine lv_aload_n hx hb dX6_begin_7 rfl (lv_at hl 0 rfl) ?_
  refine fg_X6_21 (k2 := 12) C hw ic0_3 rfl dX6_begin_8 ?_
  refine lv_iconst (v := (0 : Int32)) hx hb dX6_begin_11 (by decide) ?_
  refine fp_X6_74 C hw ic0_12 dX6_begin_12 (fun H locs hw => ?_)
  obtain ⟨M_3, eM_3⟩ : ∃ z, z = (x_up M_1 12 2 (0 : Int32)) := ⟨_, rfl⟩
  rw [← eM_3] at hw
  have hf := x_lE eM_3 hf
  refine lv_aload_n hx hb dX6_begin_15 rfl (lv_at hl 0 rfl) ?_
  refine fg_X6_21 (k2 := 12) C hw ic0_3 rfl dX6_begin_16 ?_
  refine lv_iconst (v := (0 : Int32)) hx hb dX6_begin_19 (by decide) ?_
  refine fp_X6_77 C hw ic0_12 dX6_begin_20 (fun H locs hw => ?_)
  obtain ⟨M_4, eM_4⟩ : ∃ z, z = (x_up M_3 12 3 (0 : Int32)) := ⟨_, rfl⟩
  rw [← eM_4] at hw
  have hf := x_lE eM_4 hf
  refine lv_aload_n hx hb dX6_begin_23 rfl (lv_at hl 0 rfl) ?_
  refine lv_iconst (v := (0 : Int32)) hx hb dX6_begin_24 (by decide) ?_
  refine fp_X6_29 C hw ic0_3 dX6_begin_25 (fun H locs hw => ?_)
  obtain ⟨M_5, eM_5⟩ : ∃ z, z = (x_up M_4 3 3 (0 : Int32)) := ⟨_, rfl⟩
  rw [← eM_5] at hw
  have hf := x_lE eM_5 hf
  refine lv_aload_n hx hb dX6_begin_28 rfl (lv_at hl 0 rfl) ?_
  refine lv_iconst (v := (0 : Int32)) hx hb dX6_begin_29 (by decide) ?_
  refine fp_X6_33 C hw ic0_3 dX6_begin_30 (fun H locs hw => ?_)
  obtain ⟨M_6, eM_6⟩ : ∃ z, z = (x_up M_5 3 4 (0 : Int32)) := ⟨_, rfl⟩
  rw [← eM_6] at hw
  have hf := x_lE eM_6 hf
  refine lv_aload_n hx hb dX6_begin_33 rfl (lv_at hl 0 rfl) ?_
  refine lv_iconst (v := (0 : Int32)) hx hb dX6_begin_34 (by decide) ?_
  refine fp_X6_36 C hw ic0_3 dX6_begin_35 (fun H locs hw => ?_)
  obtain ⟨M_7, eM_7⟩ : ∃ z, z = (x_up M_6 3 5 (0 : Int32)) := ⟨_, rfl⟩
  rw [← eM_7] at hw
  have hf := x_lE eM_7 hf
  refine lv_aload_n hx hb dX6_begin_38 rfl (lv_at hl 0 rfl) ?_
  refine lv_iconst (v := (-1 : Int32)) hx hb dX6_begin_39 (by decide) ?_
  refine fp_X6_39 C hw ic0_3 dX6_begin_40 (fun H locs hw => ?_)
  obtain ⟨M_8, eM_8⟩ : ∃ z, z = (x_up M_7 3 6 (-1 : Int32)) := ⟨_, rfl⟩
  rw [← eM_8] at hw
  have hf := x_lE eM_8 hf
  refine lv_aload_n hx hb dX6_begin_43 rfl (lv_at hl 0 rfl) ?_
  refine lv_iconst (v := (0 : Int32)) hx hb dX6_begin_44 (by decide) ?_
  refine fp_X6_42 C hw (⟨rfl, rfl⟩ : _ ∧ _) ic0_3 dX6_begin_45 (fun H locs hw => ?_)
  obtain ⟨M_9, eM_9⟩ : ∃ z, z = (x_up M_8 3 7 (0 : Int32)) := ⟨_, rfl⟩
  rw [← eM_9] at hw
  have hf := x_lE eM_9 hf
  exact ret hf dX6_begin_48 hw
noncomputable def fX9_isAtEnd (M : xM)  : Option (Int32 × xM) := if (M 11 2) < (M 11 1) then (some ((0 : Int32), M)) else (some ((1 : Int32), M))
set_option maxRecDepth 100000 in
set_option maxHeartbeats 4000000 in
theorem mX9_isAtEnd (l : Launch) (g : xG)  {r : Int32} {M' : xM}  {M : xM} (hf : fX9_isAtEnd M  = some (r, M')) : x_cI l g 0 yX9_isAtEnd cX9_isAtEnd 1 .boolean 0 0 [.ref (g.2.2.1 11)] M (fun v N => v = r ∧ N = M') := by
  refine x_stZ RX9 (by decide) rfl (Nat.le_of_ble_eq_true rfl) ?_
  intro p e s m args below meth c Q ls C hw ret hl
  obtain ⟨hx, hb, hml, hown, hB, -⟩ := id C
  have hl : lv_has ls 1 [(0, .ref (g.2.2.1 11))] := hl
  unfold fX9_isAtEnd at hf
  refine lv_aload_n hx hb dX9_isAtEnd_0 rfl (lv_at hl 0 rfl) ?_
  refine fg_X9_19 C hw ic0_11 dX9_isAtEnd_1 ?_
  refine lv_aload_n hx hb dX9_isAtEnd_4 rfl (lv_at hl 0 rfl) ?_
  refine fg_X9_15 C hw ic0_11 dX9_isAtEnd_5 ?_
  refine lv_icmp_lt (tgt := 15) hx hb dX9_isAtEnd_8 (by decide) (fun q_1 => ?_) (fun q_1 => ?_)
  · have hf := x_iP hf q_1
    refine lv_iconst (v := (0 : Int32)) hx hb dX9_isAtEnd_15 (by decide) ?_
    exact ret ((x_zl0 _).trans hf) dX9_isAtEnd_16 hw
  · have hf := x_iN hf q_1
    refine lv_iconst (v := (1 : Int32)) hx hb dX9_isAtEnd_11 (by decide) ?_
    refine lv_goto (tgt := 16) hx hb dX9_isAtEnd_12 (by decide) ?_
    exact ret ((x_zl1 _).trans hf) dX9_isAtEnd_16 hw
noncomputable def fX9_isLetter (M : xM) (a1 : Int32) : Option (Int32 × xM) := x_l (fun (M_2 : xM) => some ((0 : Int32), M_2)) fun k16_1 => if a1 < (97 : Int32) then (k16_1 M) else (if (122 : Int32) < a1 then (k16_1 M) else (some ((1 : Int32), M)))
set_option maxRecDepth 100000 in
set_option maxHeartbeats 4000000 in
theorem mX9_isLetter (l : Launch) (g : xG) {a1 : Int32} {r : Int32} {M' : xM}  {M : xM} (hf : fX9_isLetter M a1 = some (r, M')) : x_cI l g 0 yX9_isLetter cX9_isLetter 1 .boolean 0 0 [.int a1] M (fun v N => v = r ∧ N = M') := by
  refine x_stZ RX9 (by decide) rfl (Nat.le_of_ble_eq_true rfl) ?_
  intro p e s m args below meth c Q ls C hw ret hl
  obtain ⟨hx, hb, hml, hown, hB, -⟩ := id C
  have hl : lv_has ls 1 [(0, .int a1)] := hl
  unfold fX9_isLetter at hf
  refine lv_iload_n hx hb dX9_isLetter_0 rfl (lv_at hl 0 rfl) ?_
  refine lv_bipush (v := (97 : Int32)) hx hb dX9_isLetter_1 (by decide) ?_
  obtain ⟨k16_1, ek16_1, hf⟩ := x_jE hf
  have hk16_1 : ∀ (H : Heap) (locs : List Loc) (M_2 : xM)  (ls : Array Slot) , lv_has ls 1 [] → x_w g 0 s H locs M_2 → k16_1 M_2 = some (r, M') → W p l e (x_rm 0 0) s m args below meth c H locs 0 0 Q (F0 m 16 ls []) := by
    intro H locs M_2  ls  hl hw hf
    rw [ek16_1] at hf
    refine lv_iconst (v := (0 : Int32)) hx hb dX9_isLetter_16 (by decide) ?_
    exact ret ((x_zl0 _).trans hf) dX9_isLetter_17 hw
  refine lv_icmp_lt (tgt := 16) hx hb dX9_isLetter_3 (by decide) (fun q_3 => ?_) (fun q_3 => ?_)
  · have hf := x_iP hf q_3
    exact hk16_1 _ _ _ _ (lv_sub hl [] rfl) hw hf
  · have hf := x_iN hf q_3
    refine lv_iload_n hx hb dX9_isLetter_6 rfl (lv_at hl 0 rfl) ?_
    refine lv_bipush (v := (122 : Int32)) hx hb dX9_isLetter_7 (by decide) ?_
    refine lv_icmp_gt (tgt := 16) hx hb dX9_isLetter_9 (by decide) (fun q_4 => ?_) (fun q_4 => ?_)
    · have hf := x_iP hf q_4
      exact hk16_1 _ _ _ _ (lv_sub hl [] rfl) hw hf
    · have hf := x_iN hf q_4
      refine lv_iconst (v := (1 : Int32)) hx hb dX9_isLetter_12 (by decide) ?_
      refine lv_goto (tgt := 17) hx hb dX9_isLetter_13 (by decide) ?_
      exact ret ((x_zl1 _).trans hf) dX9_isLetter_17 hw
noncomputable def fX9_isDigit (M : xM) (a1 : Int32) : Option (Int32 × xM) := x_l (fun (M_2 : xM) => some ((0 : Int32), M_2)) fun k16_1 => if a1 < (48 : Int32) then (k16_1 M) else (if (57 : Int32) < a1 then (k16_1 M) else (some ((1 : Int32), M)))
set_option maxRecDepth 100000 in
set_option maxHeartbeats 4000000 in
theorem mX9_isDigit (l : Launch) (g : xG) {a1 : Int32} {r : Int32} {M' : xM}  {M : xM} (hf : fX9_isDigit M a1 = some (r, M')) : x_cI l g 0 yX9_isDigit cX9_isDigit 1 .boolean 0 0 [.int a1] M (fun v N => v = r ∧ N = M') := by
  refine x_stZ RX9 (by decide) rfl (Nat.le_of_ble_eq_true rfl) ?_
  intro p e s m args below meth c Q ls C hw ret hl
  obtain ⟨hx, hb, hml, hown, hB, -⟩ := id C
  have hl : lv_has ls 1 [(0, .int a1)] := hl
  unfold fX9_isDigit at hf
  refine lv_iload_n hx hb dX9_isDigit_0 rfl (lv_at hl 0 rfl) ?_
  refine lv_bipush (v := (48 : Int32)) hx hb dX9_isDigit_1 (by decide) ?_
  obtain ⟨k16_1, ek16_1, hf⟩ := x_jE hf
  have hk16_1 : ∀ (H : Heap) (locs : List Loc) (M_2 : xM)  (ls : Array Slot) , lv_has ls 1 [] → x_w g 0 s H locs M_2 → k16_1 M_2 = some (r, M') → W p l e (x_rm 0 0) s m args below meth c H locs 0 0 Q (F0 m 16 ls []) := by
    intro H locs M_2  ls  hl hw hf
    rw [ek16_1] at hf
    refine lv_iconst (v := (0 : Int32)) hx hb dX9_isDigit_16 (by decide) ?_
    exact ret ((x_zl0 _).trans hf) dX9_isDigit_17 hw
  refine lv_icmp_lt (tgt := 16) hx hb dX9_isDigit_3 (by decide) (fun q_3 => ?_) (fun q_3 => ?_)
  · have hf := x_iP hf q_3
    exact hk16_1 _ _ _ _ (lv_sub hl [] rfl) hw hf
  · have hf := x_iN hf q_3
    refine lv_iload_n hx hb dX9_isDigit_6 rfl (lv_at hl 0 rfl) ?_
    refine lv_bipush (v := (57 : Int32)) hx hb dX9_isDigit_7 (by decide) ?_
    refine lv_icmp_gt (tgt := 16) hx hb dX9_isDigit_9 (by decide) (fun q_4 => ?_) (fun q_4 => ?_)
    · have hf := x_iP hf q_4
      exact hk16_1 _ _ _ _ (lv_sub hl [] rfl) hw hf
    · have hf := x_iN hf q_4
      refine lv_iconst (v := (1 : Int32)) hx hb dX9_isDigit_12 (by decide) ?_
      refine lv_goto (tgt := 17) hx hb dX9_isDigit_13 (by decide) ?_
      exact ret ((x_zl1 _).trans hf) dX9_isDigit_17 hw
noncomputable def fX9_isOneWord (M : xM) (a1 : Int32) (a2 : Int32) : Option (Int32 × xM) := x_b (fX9_isLetter M a1) fun v_3 M_1 => x_l (fun (M_5 : xM) => some ((1 : Int32), M_5)) fun k28_4 => x_l (fun (M_7 : xM) => x_b (fX9_isDigit M_7 a1) fun v_10 M_8 => x_l (fun (M_12 : xM) => some ((0 : Int32), M_12)) fun k32_11 => if v_10 = 0 then (k32_11 M_8) else (x_b (fX9_isDigit M_8 a2) fun v_16 M_14 => if v_16 = 0 then (k32_11 M_14) else (k28_4 M_14))) fun k14_6 => if v_3 = 0 then (k14_6 M_1) else (x_b (fX9_isLetter M_1 a2) fun v_21 M_19 => if v_21 = 0 then (k14_6 M_19) else (k28_4 M_19))
set_option maxRecDepth 100000 in
set_option maxHeartbeats 4000000 in
theorem mX9_isOneWord (l : Launch) (g : xG) {a1 : Int32} {a2 : Int32} {r : Int32} {M' : xM}  {M : xM} (hf : fX9_isOneWord M a1 a2 = some (r, M')) : x_cI l g 0 yX9_isOneWord cX9_isOneWord 2 .boolean 1 20 [.int a1, .int a2] M (fun v N => v = r ∧ N = M') := by
  refine x_stZ RX9 (by decide) rfl (Nat.le_of_ble_eq_true rfl) ?_
  intro p e s m args below meth c Q ls C hw ret hl
  obtain ⟨hx, hb, hml, hown, hB, -⟩ := id C
  have hl : lv_has ls 2 [(0, .int a1), (1, .int a2)] := hl
  unfold fX9_isOneWord at hf
  refine lv_iload_n hx hb dX9_isOneWord_0 rfl (lv_at hl 0 rfl) ?_
  obtain ⟨tv_3, tM_1, c_2, hf⟩ := x_bE hf
  refine x_sI C hw hl.1 [.int a1] [] (mX9_isLetter l g c_2) lk_X9_37 (by decide) rfl (Nat.le_of_ble_eq_true rfl) ⟨Nat.zero_le _, Nat.zero_le _⟩ dX9_isOneWord_1 (fun v_3 M_1 H locs hN hw => ?_)
  obtain ⟨rfl, rfl⟩ := hN
  obtain ⟨k28_4, ek28_4, hf⟩ := x_jE hf
  have hk28_4 : ∀ (H : Heap) (locs : List Loc) (M_5 : xM)  (ls : Array Slot) , lv_has ls 2 [] → x_w g 0 s H locs M_5 → k28_4 M_5 = some (r, M') → W p l e (x_rm 1 20) s m args below meth c H locs 0 0 Q (F0 m 28 ls []) := by
    intro H locs M_5  ls  hl hw hf
    rw [ek28_4] at hf
    refine lv_iconst (v := (1 : Int32)) hx hb dX9_isOneWord_28 (by decide) ?_
    refine lv_goto (tgt := 33) hx hb dX9_isOneWord_29 (by decide) ?_
    exact ret ((x_zl1 _).trans hf) dX9_isOneWord_33 hw
  obtain ⟨k14_6, ek14_6, hf⟩ := x_jE hf
  have hk14_6 : ∀ (H : Heap) (locs : List Loc) (M_7 : xM)  (ls : Array Slot) , lv_has ls 2 [(0, .int a1), (1, .int a2)] → x_w g 0 s H locs M_7 → k14_6 M_7 = some (r, M') → W p l e (x_rm 1 20) s m args below meth c H locs 0 0 Q (F0 m 14 ls []) := by
    intro H locs M_7  ls  hl hw hf
    rw [ek14_6] at hf
    refine lv_iload_n hx hb dX9_isOneWord_14 rfl (lv_at hl 0 rfl) ?_
    obtain ⟨tv_10, tM_8, c_9, hf⟩ := x_bE hf
    refine x_sI C hw hl.1 [.int a1] [] (mX9_isDigit l g c_9) lk_X9_41 (by decide) rfl (Nat.le_of_ble_eq_true rfl) ⟨Nat.zero_le _, Nat.zero_le _⟩ dX9_isOneWord_15 (fun v_10 M_8 H locs hN hw => ?_)
    obtain ⟨rfl, rfl⟩ := hN
    obtain ⟨k32_11, ek32_11, hf⟩ := x_jE hf
    have hk32_11 : ∀ (H : Heap) (locs : List Loc) (M_12 : xM)  (ls : Array Slot) , lv_has ls 2 [] → x_w g 0 s H locs M_12 → k32_11 M_12 = some (r, M') → W p l e (x_rm 1 20) s m args below meth c H locs 0 0 Q (F0 m 32 ls []) := by
      intro H locs M_12  ls  hl hw hf
      rw [ek32_11] at hf
      refine lv_iconst (v := (0 : Int32)) hx hb dX9_isOneWord_32 (by decide) ?_
      exact ret ((x_zl0 _).trans hf) dX9_isOneWord_33 hw
    refine lv_if_eq (tgt := 32) hx hb dX9_isOneWord_18 (by decide) (fun q_13 => ?_) (fun q_13 => ?_)
    · have hf := x_iP hf q_13
      exact hk32_11 _ _ _ _ (lv_sub hl [] rfl) hw hf
    · have hf := x_iN hf q_13
      refine lv_iload_n hx hb dX9_isOneWord_21 rfl (lv_at hl 1 rfl) ?_
      obtain ⟨tv_16, tM_14, c_15, hf⟩ := x_bE hf
      refine x_sI C hw hl.1 [.int a2] [] (mX9_isDigit l g c_15) lk_X9_41 (by decide) rfl (Nat.le_of_ble_eq_true rfl) ⟨Nat.zero_le _, Nat.zero_le _⟩ dX9_isOneWord_22 (fun v_16 M_14 H locs hN hw => ?_)
      obtain ⟨rfl, rfl⟩ := hN
      refine lv_if_eq (tgt := 32) hx hb dX9_isOneWord_25 (by decide) (fun q_17 => ?_) (fun q_17 => ?_)
      · have hf := x_iP hf q_17
        exact hk32_11 _ _ _ _ (lv_sub hl [] rfl) hw hf
      · have hf := x_iN hf q_17
        exact hk28_4 _ _ _ _ (lv_sub hl [] rfl) hw hf
  refine lv_if_eq (tgt := 14) hx hb dX9_isOneWord_4 (by decide) (fun q_18 => ?_) (fun q_18 => ?_)
  · have hf := x_iP hf q_18
    exact hk14_6 _ _ _ _ (lv_sub hl [0, 1] rfl) hw hf
  · have hf := x_iN hf q_18
    refine lv_iload_n hx hb dX9_isOneWord_7 rfl (lv_at hl 1 rfl) ?_
    obtain ⟨tv_21, tM_19, c_20, hf⟩ := x_bE hf
    refine x_sI C hw hl.1 [.int a2] [] (mX9_isLetter l g c_20) lk_X9_37 (by decide) rfl (Nat.le_of_ble_eq_true rfl) ⟨Nat.zero_le _, Nat.zero_le _⟩ dX9_isOneWord_8 (fun v_21 M_19 H locs hN hw => ?_)
    obtain ⟨rfl, rfl⟩ := hN
    refine lv_if_ne (tgt := 28) hx hb dX9_isOneWord_11 (by decide) (fun q_22 => ?_) (fun q_22 => ?_)
    · have hf := x_iN hf q_22
      exact hk28_4 _ _ _ _ (lv_sub hl [] rfl) hw hf
    · have hf := x_iP hf q_22
      exact hk14_6 _ _ _ _ (lv_sub hl [0, 1] rfl) hw hf
noncomputable def fX9_goOn_L72  : Nat → xM → Option (xM)
  | 0, _ => none
  | n_11 + 1, M_10 => if (M_10 11 1) ≤ (M_10 11 3) then (some M_10) else (x_g (M_10 11 2) 120 (x_g (M_10 11 3) 120 (x_b (fX9_isOneWord M_10 (M_10 14 (M_10 11 2).toNatClampNeg) (M_10 14 (M_10 11 3).toNatClampNeg)) fun v_18 M_16 => if v_18 = 0 then (some M_16) else (x_l (x_up M_16 11 3 ((M_16 11 3) + (1 : Int32))) fun M_20 => fX9_goOn_L72 n_11 M_20))))
noncomputable def fX9_goOn_L8 (k46_2 : xM → Option (xM)) : Nat → xM → Option (xM)
  | 0, _ => none
  | n_23 + 1, M_22 => if (M_22 11 1) ≤ (M_22 11 2) then (k46_2 M_22) else (x_g (M_22 11 2) 120 (if (M_22 14 (M_22 11 2).toNatClampNeg) = (32 : Int32) then (x_l (x_up M_22 11 2 ((M_22 11 2) + (1 : Int32))) fun M_28 => fX9_goOn_L8 k46_2 n_23 M_28) else (k46_2 M_22)))
noncomputable def fX9_goOn (M : xM)  : Option (xM) := x_l (x_up M 11 2 (M 11 3)) fun M_1 => x_l (fun (M_3 : xM) => x_l (x_up M_3 11 3 (M_3 11 2)) fun M_4 => x_b (fX9_isAtEnd M_4) fun v_7 M_5 => if v_7 = 0 then (x_l (x_up M_5 11 3 ((M_5 11 3) + (1 : Int32))) fun M_9 => fX9_goOn_L72 x_FU M_9) else (some M_5)) fun k46_2 => fX9_goOn_L8 k46_2 x_FU M_1
set_option maxRecDepth 100000 in
set_option maxHeartbeats 4000000 in
theorem mX9_goOn (l : Launch) (g : xG)  {M' : xM}  {M : xM} (hf : fX9_goOn M  = some M') : x_cV l g 0 yX9_goOn cX9_goOn 1 2 41 [.ref (g.2.2.1 11)] M (fun N => N = M') := by
  refine x_stV RX9 (by decide) rfl (Nat.le_of_ble_eq_true rfl) ?_
  intro p e s m args below meth c Q ls C hw ret hl
  obtain ⟨hx, hb, hml, hown, hB, -⟩ := id C
  have hl : lv_has ls 1 [(0, .ref (g.2.2.1 11))] := hl
  unfold fX9_goOn at hf
  refine lv_aload_n hx hb dX9_goOn_0 rfl (lv_at hl 0 rfl) ?_
  refine lv_aload_n hx hb dX9_goOn_1 rfl (lv_at hl 0 rfl) ?_
  refine fg_X9_22 C hw ic0_11 dX9_goOn_2 ?_
  refine fp_X9_19 C hw ic0_11 dX9_goOn_5 (fun H locs hw => ?_)
  obtain ⟨M_1, eM_1⟩ : ∃ z, z = (x_up M 11 2 (M 11 3)) := ⟨_, rfl⟩
  rw [← eM_1] at hw
  have hf := x_lE eM_1 hf
  obtain ⟨k46_2, ek46_2, hf⟩ := x_jE hf
  have hk46_2 : ∀ (H : Heap) (locs : List Loc) (M_3 : xM)  (ls : Array Slot) , lv_has ls 1 [(0, .ref (g.2.2.1 11))] → x_w g 0 s H locs M_3 → k46_2 M_3 = some M' → W p l e (x_rm 2 41) s m args below meth c H locs 0 0 Q (F0 m 46 ls []) := by
    intro H locs M_3  ls  hl hw hf
    rw [ek46_2] at hf
    refine lv_aload_n hx hb dX9_goOn_46 rfl (lv_at hl 0 rfl) ?_
    refine lv_aload_n hx hb dX9_goOn_47 rfl (lv_at hl 0 rfl) ?_
    refine fg_X9_19 C hw ic0_11 dX9_goOn_48 ?_
    refine fp_X9_22 C hw ic0_11 dX9_goOn_51 (fun H locs hw => ?_)
    obtain ⟨M_4, eM_4⟩ : ∃ z, z = (x_up M_3 11 3 (M_3 11 2)) := ⟨_, rfl⟩
    rw [← eM_4] at hw
    have hf := x_lE eM_4 hf
    refine lv_aload_n hx hb dX9_goOn_54 rfl (lv_at hl 0 rfl) ?_
    obtain ⟨tv_7, tM_5, c_6, hf⟩ := x_bE hf
    refine x_vI C hw hl.1 [] [] (mX9_isAtEnd l g c_6) lk_X9_25 ic0_11 (by decide) rfl (by decide) rfl (Nat.le_of_ble_eq_true rfl) ⟨Nat.zero_le _, Nat.zero_le _⟩ dX9_goOn_55 (fun v_7 M_5 H locs hN hw => ?_)
    obtain ⟨rfl, rfl⟩ := hN
    refine lv_if_eq (tgt := 62) hx hb dX9_goOn_58 (by decide) (fun q_8 => ?_) (fun q_8 => ?_)
    · have hf := x_iP hf q_8
      refine lv_aload_n hx hb dX9_goOn_62 rfl (lv_at hl 0 rfl) ?_
      refine lv_dup hx hb dX9_goOn_63 rfl ?_
      refine fg_X9_22 C hw ic0_11 dX9_goOn_64 ?_
      refine lv_iconst (v := (1 : Int32)) hx hb dX9_goOn_67 (by decide) ?_
      refine lv_iadd hx hb dX9_goOn_68 ?_
      refine fp_X9_22 C hw ic0_11 dX9_goOn_69 (fun H locs hw => ?_)
      obtain ⟨M_9, eM_9⟩ : ∃ z, z = (x_up M_5 11 3 ((M_5 11 3) + (1 : Int32))) := ⟨_, rfl⟩
      rw [← eM_9] at hw
      have hf := x_lE eM_9 hf
      have hL_21 : ∀ (n_11 : Nat) (H : Heap) (locs : List Loc) (M_10 : xM)  (ls : Array Slot) , lv_has ls 1 [(0, .ref (g.2.2.1 11))] → x_w g 0 s H locs M_10 → fX9_goOn_L72 n_11 M_10 = some M' → W p l e (x_rm 2 41) s m args below meth c H locs 0 0 Q (F0 m 72 ls []) := by
        intro n_11
        induction n_11 with
        | zero =>
          intro H locs M_10  ls  hl hw hf
          rw [fX9_goOn_L72] at hf
          cases hf
        | succ n_11 ih_12 =>
          intro H locs M_10  ls  hl hw hf
          rw [fX9_goOn_L72] at hf
          refine lv_aload_n hx hb dX9_goOn_72 rfl (lv_at hl 0 rfl) ?_
          refine fg_X9_22 C hw ic0_11 dX9_goOn_73 ?_
          refine lv_aload_n hx hb dX9_goOn_76 rfl (lv_at hl 0 rfl) ?_
          refine fg_X9_15 C hw ic0_11 dX9_goOn_77 ?_
          refine lv_icmp_ge (tgt := 120) hx hb dX9_goOn_80 (by decide) (fun q_13 => ?_) (fun q_13 => ?_)
          · have hf := x_iP hf q_13
            exact ret hf dX9_goOn_120 hw
          · have hf := x_iN hf q_13
            refine lv_aload_n hx hb dX9_goOn_83 rfl (lv_at hl 0 rfl) ?_
            refine fg_X9_9 (k2 := 14) C hw ic0_11 rfl dX9_goOn_84 ?_
            refine lv_aload_n hx hb dX9_goOn_87 rfl (lv_at hl 0 rfl) ?_
            refine fg_X9_19 C hw ic0_11 dX9_goOn_88 ?_
            obtain ⟨q_14, hf⟩ := x_gE hf
            refine x_ald C hw ic0_14 q_14 rfl dX9_goOn_91 ?_
            refine lv_aload_n hx hb dX9_goOn_92 rfl (lv_at hl 0 rfl) ?_
            refine fg_X9_9 (k2 := 14) C hw ic0_11 rfl dX9_goOn_93 ?_
            refine lv_aload_n hx hb dX9_goOn_96 rfl (lv_at hl 0 rfl) ?_
            refine fg_X9_22 C hw ic0_11 dX9_goOn_97 ?_
            obtain ⟨q_15, hf⟩ := x_gE hf
            refine x_ald C hw ic0_14 q_15 rfl dX9_goOn_100 ?_
            obtain ⟨tv_18, tM_16, c_17, hf⟩ := x_bE hf
            refine x_sI C hw hl.1 [.int (M_10 14 (M_10 11 2).toNatClampNeg), .int (M_10 14 (M_10 11 3).toNatClampNeg)] [] (mX9_isOneWord l g c_17) lk_X9_29 (by decide) rfl (Nat.le_of_ble_eq_true rfl) ⟨Nat.zero_le _, Nat.zero_le _⟩ dX9_goOn_101 (fun v_18 M_16 H locs hN hw => ?_)
            obtain ⟨rfl, rfl⟩ := hN
            refine lv_if_eq (tgt := 120) hx hb dX9_goOn_104 (by decide) (fun q_19 => ?_) (fun q_19 => ?_)
            · have hf := x_iP hf q_19
              exact ret hf dX9_goOn_120 hw
            · have hf := x_iN hf q_19
              refine lv_aload_n hx hb dX9_goOn_107 rfl (lv_at hl 0 rfl) ?_
              refine lv_dup hx hb dX9_goOn_108 rfl ?_
              refine fg_X9_22 C hw ic0_11 dX9_goOn_109 ?_
              refine lv_iconst (v := (1 : Int32)) hx hb dX9_goOn_112 (by decide) ?_
              refine lv_iadd hx hb dX9_goOn_113 ?_
              refine fp_X9_22 C hw ic0_11 dX9_goOn_114 (fun H locs hw => ?_)
              obtain ⟨M_20, eM_20⟩ : ∃ z, z = (x_up M_16 11 3 ((M_16 11 3) + (1 : Int32))) := ⟨_, rfl⟩
              rw [← eM_20] at hw
              have hf := x_lE eM_20 hf
              refine lv_goto (tgt := 72) hx hb dX9_goOn_117 (by decide) ?_
              exact ih_12 _ _ _ _ (lv_sub hl [0] rfl) hw hf
      exact hL_21 _ _ _ _ _ (lv_sub hl [0] rfl) hw hf
    · have hf := x_iN hf q_8
      exact ret hf dX9_goOn_61 hw
  have hL_29 : ∀ (n_23 : Nat) (H : Heap) (locs : List Loc) (M_22 : xM)  (ls : Array Slot) , lv_has ls 1 [(0, .ref (g.2.2.1 11))] → x_w g 0 s H locs M_22 → fX9_goOn_L8 k46_2 n_23 M_22 = some M' → W p l e (x_rm 2 41) s m args below meth c H locs 0 0 Q (F0 m 8 ls []) := by
    intro n_23
    induction n_23 with
    | zero =>
      intro H locs M_22  ls  hl hw hf
      rw [fX9_goOn_L8] at hf
      cases hf
    | succ n_23 ih_24 =>
      intro H locs M_22  ls  hl hw hf
      rw [fX9_goOn_L8] at hf
      refine lv_aload_n hx hb dX9_goOn_8 rfl (lv_at hl 0 rfl) ?_
      refine fg_X9_19 C hw ic0_11 dX9_goOn_9 ?_
      refine lv_aload_n hx hb dX9_goOn_12 rfl (lv_at hl 0 rfl) ?_
      refine fg_X9_15 C hw ic0_11 dX9_goOn_13 ?_
      refine lv_icmp_ge (tgt := 46) hx hb dX9_goOn_16 (by decide) (fun q_25 => ?_) (fun q_25 => ?_)
      · have hf := x_iP hf q_25
        exact hk46_2 _ _ _ _ (lv_sub hl [0] rfl) hw hf
      · have hf := x_iN hf q_25
        refine lv_aload_n hx hb dX9_goOn_19 rfl (lv_at hl 0 rfl) ?_
        refine fg_X9_9 (k2 := 14) C hw ic0_11 rfl dX9_goOn_20 ?_
        refine lv_aload_n hx hb dX9_goOn_23 rfl (lv_at hl 0 rfl) ?_
        refine fg_X9_19 C hw ic0_11 dX9_goOn_24 ?_
        obtain ⟨q_26, hf⟩ := x_gE hf
        refine x_ald C hw ic0_14 q_26 rfl dX9_goOn_27 ?_
        refine lv_bipush (v := (32 : Int32)) hx hb dX9_goOn_28 (by decide) ?_
        refine lv_icmp_ne (tgt := 46) hx hb dX9_goOn_30 (by decide) (fun q_27 => ?_) (fun q_27 => ?_)
        · have hf := x_iN hf q_27
          exact hk46_2 _ _ _ _ (lv_sub hl [0] rfl) hw hf
        · have hf := x_iP hf q_27
          refine lv_aload_n hx hb dX9_goOn_33 rfl (lv_at hl 0 rfl) ?_
          refine lv_dup hx hb dX9_goOn_34 rfl ?_
          refine fg_X9_19 C hw ic0_11 dX9_goOn_35 ?_
          refine lv_iconst (v := (1 : Int32)) hx hb dX9_goOn_38 (by decide) ?_
          refine lv_iadd hx hb dX9_goOn_39 ?_
          refine fp_X9_19 C hw ic0_11 dX9_goOn_40 (fun H locs hw => ?_)
          obtain ⟨M_28, eM_28⟩ : ∃ z, z = (x_up M_22 11 2 ((M_22 11 2) + (1 : Int32))) := ⟨_, rfl⟩
          rw [← eM_28] at hw
          have hf := x_lE eM_28 hf
          refine lv_goto (tgt := 8) hx hb dX9_goOn_43 (by decide) ?_
          exact ih_24 _ _ _ _ (lv_sub hl [0] rfl) hw hf
  exact hL_29 _ _ _ _ _ (lv_sub hl [0] rfl) hw hf
noncomputable def fX9_first (M : xM)  : Option (Int32 × xM) := x_b (fX9_isAtEnd M) fun v_3 M_1 => if v_3 = 0 then (x_g (M_1 11 2) 120 (some ((M_1 14 (M_1 11 2).toNatClampNeg), M_1))) else (some ((32 : Int32), M_1))
set_option maxRecDepth 100000 in
set_option maxHeartbeats 4000000 in
theorem mX9_first (l : Launch) (g : xG)  {r : Int32} {M' : xM}  {M : xM} (hf : fX9_first M  = some (r, M')) : x_cI l g 0 yX9_first cX9_first 1 .int 1 20 [.ref (g.2.2.1 11)] M (fun v N => v = r ∧ N = M') := by
  refine x_stI RX9 (by decide) rfl (Nat.le_of_ble_eq_true rfl) ?_
  intro p e s m args below meth c Q ls C hw ret hl
  obtain ⟨hx, hb, hml, hown, hB, -⟩ := id C
  have hl : lv_has ls 1 [(0, .ref (g.2.2.1 11))] := hl
  unfold fX9_first at hf
  refine lv_aload_n hx hb dX9_first_0 rfl (lv_at hl 0 rfl) ?_
  obtain ⟨tv_3, tM_1, c_2, hf⟩ := x_bE hf
  refine x_vI C hw hl.1 [] [] (mX9_isAtEnd l g c_2) lk_X9_25 ic0_11 (by decide) rfl (by decide) rfl (Nat.le_of_ble_eq_true rfl) ⟨Nat.zero_le _, Nat.zero_le _⟩ dX9_first_1 (fun v_3 M_1 H locs hN hw => ?_)
  obtain ⟨rfl, rfl⟩ := hN
  refine lv_if_eq (tgt := 12) hx hb dX9_first_4 (by decide) (fun q_4 => ?_) (fun q_4 => ?_)
  · have hf := x_iP hf q_4
    refine lv_aload_n hx hb dX9_first_12 rfl (lv_at hl 0 rfl) ?_
    refine fg_X9_9 (k2 := 14) C hw ic0_11 rfl dX9_first_13 ?_
    refine lv_aload_n hx hb dX9_first_16 rfl (lv_at hl 0 rfl) ?_
    refine fg_X9_19 C hw ic0_11 dX9_first_17 ?_
    obtain ⟨q_5, hf⟩ := x_gE hf
    refine x_ald C hw ic0_14 q_5 rfl dX9_first_20 ?_
    exact ret hf dX9_first_21 hw
  · have hf := x_iN hf q_4
    refine lv_bipush (v := (32 : Int32)) hx hb dX9_first_7 (by decide) ?_
    refine lv_goto (tgt := 21) hx hb dX9_first_9 (by decide) ?_
    exact ret hf dX9_first_21 hw
noncomputable def fX9_isWord (M : xM)  : Option (Int32 × xM) := x_b (fX9_first M) fun v_3 M_1 => x_b (fX9_isLetter M_1 v_3) fun v_6 M_4 => x_l (fun (M_8 : xM) => some ((1 : Int32), M_8)) fun k20_7 => if v_6 = 0 then (x_b (fX9_first M_4) fun v_12 M_10 => x_b (fX9_isDigit M_10 v_12) fun v_15 M_13 => if v_15 = 0 then (some ((0 : Int32), M_13)) else (k20_7 M_13)) else (k20_7 M_4)
set_option maxRecDepth 100000 in
set_option maxHeartbeats 4000000 in
theorem mX9_isWord (l : Launch) (g : xG)  {r : Int32} {M' : xM}  {M : xM} (hf : fX9_isWord M  = some (r, M')) : x_cI l g 0 yX9_isWord cX9_isWord 1 .boolean 2 40 [.ref (g.2.2.1 11)] M (fun v N => v = r ∧ N = M') := by
  refine x_stZ RX9 (by decide) rfl (Nat.le_of_ble_eq_true rfl) ?_
  intro p e s m args below meth c Q ls C hw ret hl
  obtain ⟨hx, hb, hml, hown, hB, -⟩ := id C
  have hl : lv_has ls 1 [(0, .ref (g.2.2.1 11))] := hl
  unfold fX9_isWord at hf
  refine lv_aload_n hx hb dX9_isWord_0 rfl (lv_at hl 0 rfl) ?_
  obtain ⟨tv_3, tM_1, c_2, hf⟩ := x_bE hf
  refine x_vI C hw hl.1 [] [] (mX9_first l g c_2) lk_X9_33 ic0_11 (by decide) rfl (by decide) rfl (Nat.le_of_ble_eq_true rfl) ⟨Nat.zero_le _, Nat.zero_le _⟩ dX9_isWord_1 (fun v_3 M_1 H locs hN hw => ?_)
  obtain ⟨rfl, rfl⟩ := hN
  obtain ⟨tv_6, tM_4, c_5, hf⟩ := x_bE hf
  refine x_sI C hw hl.1 [.int v_3] [] (mX9_isLetter l g c_5) lk_X9_37 (by decide) rfl (Nat.le_of_ble_eq_true rfl) ⟨Nat.zero_le _, Nat.zero_le _⟩ dX9_isWord_4 (fun v_6 M_4 H locs hN hw => ?_)
  obtain ⟨rfl, rfl⟩ := hN
  obtain ⟨k20_7, ek20_7, hf⟩ := x_jE hf
  have hk20_7 : ∀ (H : Heap) (locs : List Loc) (M_8 : xM)  (ls : Array Slot) , lv_has ls 1 [] → x_w g 0 s H locs M_8 → k20_7 M_8 = some (r, M') → W p l e (x_rm 2 40) s m args below meth c H locs 0 0 Q (F0 m 20 ls []) := by
    intro H locs M_8  ls  hl hw hf
    rw [ek20_7] at hf
    refine lv_iconst (v := (1 : Int32)) hx hb dX9_isWord_20 (by decide) ?_
    refine lv_goto (tgt := 25) hx hb dX9_isWord_21 (by decide) ?_
    exact ret ((x_zl1 _).trans hf) dX9_isWord_25 hw
  refine lv_if_ne (tgt := 20) hx hb dX9_isWord_7 (by decide) (fun q_9 => ?_) (fun q_9 => ?_)
  · have hf := x_iN hf q_9
    exact hk20_7 _ _ _ _ (lv_sub hl [] rfl) hw hf
  · have hf := x_iP hf q_9
    refine lv_aload_n hx hb dX9_isWord_10 rfl (lv_at hl 0 rfl) ?_
    obtain ⟨tv_12, tM_10, c_11, hf⟩ := x_bE hf
    refine x_vI C hw hl.1 [] [] (mX9_first l g c_11) lk_X9_33 ic0_11 (by decide) rfl (by decide) rfl (Nat.le_of_ble_eq_true rfl) ⟨Nat.zero_le _, Nat.zero_le _⟩ dX9_isWord_11 (fun v_12 M_10 H locs hN hw => ?_)
    obtain ⟨rfl, rfl⟩ := hN
    obtain ⟨tv_15, tM_13, c_14, hf⟩ := x_bE hf
    refine x_sI C hw hl.1 [.int v_12] [] (mX9_isDigit l g c_14) lk_X9_41 (by decide) rfl (Nat.le_of_ble_eq_true rfl) ⟨Nat.zero_le _, Nat.zero_le _⟩ dX9_isWord_14 (fun v_15 M_13 H locs hN hw => ?_)
    obtain ⟨rfl, rfl⟩ := hN
    refine lv_if_eq (tgt := 24) hx hb dX9_isWord_17 (by decide) (fun q_16 => ?_) (fun q_16 => ?_)
    · have hf := x_iP hf q_16
      refine lv_iconst (v := (0 : Int32)) hx hb dX9_isWord_24 (by decide) ?_
      exact ret ((x_zl0 _).trans hf) dX9_isWord_25 hw
    · have hf := x_iN hf q_16
      exact hk20_7 _ _ _ _ (lv_sub hl [] rfl) hw hf
noncomputable def fX9_isGlued (M : xM)  : Option (Int32 × xM) := if (M 11 2) = 0 then (some ((0 : Int32), M)) else (x_b (fX9_isWord M) fun v_4 M_2 => if v_4 = 0 then (some ((0 : Int32), M_2)) else (x_g ((M_2 11 2) - (1 : Int32)) 120 (x_l (M_2 14 ((M_2 11 2) - (1 : Int32)).toNatClampNeg) fun x1_7 => x_b (fX9_isLetter M_2 x1_7) fun v_10 M_8 => x_l (fun (M_12 : xM) => some ((1 : Int32), M_12)) fun k42_11 => if v_10 = 0 then (x_b (fX9_isDigit M_8 x1_7) fun v_16 M_14 => if v_16 = 0 then (some ((0 : Int32), M_14)) else (k42_11 M_14)) else (k42_11 M_8))))
set_option maxRecDepth 100000 in
set_option maxHeartbeats 4000000 in
theorem mX9_isGlued (l : Launch) (g : xG)  {r : Int32} {M' : xM}  {M : xM} (hf : fX9_isGlued M  = some (r, M')) : x_cI l g 0 yX9_isGlued cX9_isGlued 2 .boolean 3 60 [.ref (g.2.2.1 11)] M (fun v N => v = r ∧ N = M') := by
  refine x_stZ RX9 (by decide) rfl (Nat.le_of_ble_eq_true rfl) ?_
  intro p e s m args below meth c Q ls C hw ret hl
  obtain ⟨hx, hb, hml, hown, hB, -⟩ := id C
  have hl : lv_has ls 2 [(0, .ref (g.2.2.1 11))] := hl
  unfold fX9_isGlued at hf
  refine lv_aload_n hx hb dX9_isGlued_0 rfl (lv_at hl 0 rfl) ?_
  refine fg_X9_19 C hw ic0_11 dX9_isGlued_1 ?_
  refine lv_if_eq (tgt := 14) hx hb dX9_isGlued_4 (by decide) (fun q_1 => ?_) (fun q_1 => ?_)
  · have hf := x_iP hf q_1
    refine lv_iconst (v := (0 : Int32)) hx hb dX9_isGlued_14 (by decide) ?_
    exact ret ((x_zl0 _).trans hf) dX9_isGlued_15 hw
  · have hf := x_iN hf q_1
    refine lv_aload_n hx hb dX9_isGlued_7 rfl (lv_at hl 0 rfl) ?_
    obtain ⟨tv_4, tM_2, c_3, hf⟩ := x_bE hf
    refine x_vI C hw hl.1 [] [] (mX9_isWord l g c_3) lk_X9_44 ic0_11 (by decide) rfl (by decide) rfl (Nat.le_of_ble_eq_true rfl) ⟨Nat.zero_le _, Nat.zero_le _⟩ dX9_isGlued_8 (fun v_4 M_2 H locs hN hw => ?_)
    obtain ⟨rfl, rfl⟩ := hN
    refine lv_if_ne (tgt := 16) hx hb dX9_isGlued_11 (by decide) (fun q_5 => ?_) (fun q_5 => ?_)
    · have hf := x_iN hf q_5
      refine lv_aload_n hx hb dX9_isGlued_16 rfl (lv_at hl 0 rfl) ?_
      refine fg_X9_9 (k2 := 14) C hw ic0_11 rfl dX9_isGlued_17 ?_
      refine lv_aload_n hx hb dX9_isGlued_20 rfl (lv_at hl 0 rfl) ?_
      refine fg_X9_19 C hw ic0_11 dX9_isGlued_21 ?_
      refine lv_iconst (v := (1 : Int32)) hx hb dX9_isGlued_24 (by decide) ?_
      refine lv_isub hx hb dX9_isGlued_25 ?_
      obtain ⟨q_6, hf⟩ := x_gE hf
      refine x_ald C hw ic0_14 q_6 rfl dX9_isGlued_26 ?_
      refine lv_topi (fun x1_7 ex1_7 => ?_)
      have hf := x_lE ex1_7 hf
      refine lv_istore_n (lv' := [(1, .int x1_7), (0, .ref (g.2.2.1 11))]) hx hb dX9_isGlued_27 rfl hl (by decide) rfl (fun ls hl => ?_)
      refine lv_iload_n hx hb dX9_isGlued_28 rfl (lv_at hl 0 rfl) ?_
      obtain ⟨tv_10, tM_8, c_9, hf⟩ := x_bE hf
      refine x_sI C hw hl.1 [.int x1_7] [] (mX9_isLetter l g c_9) lk_X9_37 (by decide) rfl (Nat.le_of_ble_eq_true rfl) ⟨Nat.zero_le _, Nat.zero_le _⟩ dX9_isGlued_29 (fun v_10 M_8 H locs hN hw => ?_)
      obtain ⟨rfl, rfl⟩ := hN
      obtain ⟨k42_11, ek42_11, hf⟩ := x_jE hf
      have hk42_11 : ∀ (H : Heap) (locs : List Loc) (M_12 : xM)  (ls : Array Slot) , lv_has ls 2 [] → x_w g 0 s H locs M_12 → k42_11 M_12 = some (r, M') → W p l e (x_rm 3 60) s m args below meth c H locs 0 0 Q (F0 m 42 ls []) := by
        intro H locs M_12  ls  hl hw hf
        rw [ek42_11] at hf
        refine lv_iconst (v := (1 : Int32)) hx hb dX9_isGlued_42 (by decide) ?_
        refine lv_goto (tgt := 47) hx hb dX9_isGlued_43 (by decide) ?_
        exact ret ((x_zl1 _).trans hf) dX9_isGlued_47 hw
      refine lv_if_ne (tgt := 42) hx hb dX9_isGlued_32 (by decide) (fun q_13 => ?_) (fun q_13 => ?_)
      · have hf := x_iN hf q_13
        exact hk42_11 _ _ _ _ (lv_sub hl [] rfl) hw hf
      · have hf := x_iP hf q_13
        refine lv_iload_n hx hb dX9_isGlued_35 rfl (lv_at hl 0 rfl) ?_
        obtain ⟨tv_16, tM_14, c_15, hf⟩ := x_bE hf
        refine x_sI C hw hl.1 [.int x1_7] [] (mX9_isDigit l g c_15) lk_X9_41 (by decide) rfl (Nat.le_of_ble_eq_true rfl) ⟨Nat.zero_le _, Nat.zero_le _⟩ dX9_isGlued_36 (fun v_16 M_14 H locs hN hw => ?_)
        obtain ⟨rfl, rfl⟩ := hN
        refine lv_if_eq (tgt := 46) hx hb dX9_isGlued_39 (by decide) (fun q_17 => ?_) (fun q_17 => ?_)
        · have hf := x_iP hf q_17
          refine lv_iconst (v := (0 : Int32)) hx hb dX9_isGlued_46 (by decide) ?_
          exact ret ((x_zl0 _).trans hf) dX9_isGlued_47 hw
        · have hf := x_iN hf q_17
          exact hk42_11 _ _ _ _ (lv_sub hl [] rfl) hw hf
    · have hf := x_iP hf q_5
      refine lv_iconst (v := (0 : Int32)) hx hb dX9_isGlued_14 (by decide) ?_
      exact ret ((x_zl0 _).trans hf) dX9_isGlued_15 hw
noncomputable def fX6_hold (M : xM) (a1 : Int32) : Option (xM) := if (M 3 3) < (120 : Int32) then (x_g (M 3 3) 120 (x_l (x_up M 13 (M 3 3).toNatClampNeg a1) fun M_3 => x_l (x_up M_3 3 3 ((M_3 3 3) + (1 : Int32))) fun M_4 => some M_4)) else (some M)
set_option maxRecDepth 100000 in
set_option maxHeartbeats 4000000 in
theorem mX6_hold (l : Launch) (g : xG) {a1 : Int32} {M' : xM}  {M : xM} (hf : fX6_hold M a1 = some M') : x_cV l g 0 yX6_hold cX6_hold 2 0 0 [.ref (g.2.2.1 3), .int a1] M (fun N => N = M') := by
  refine x_stV RX6 (by decide) rfl (Nat.le_of_ble_eq_true rfl) ?_
  intro p e s m args below meth c Q ls C hw ret hl
  obtain ⟨hx, hb, hml, hown, hB, -⟩ := id C
  have hl : lv_has ls 2 [(0, .ref (g.2.2.1 3)), (1, .int a1)] := hl
  unfold fX6_hold at hf
  refine lv_aload_n hx hb dX6_hold_0 rfl (lv_at hl 0 rfl) ?_
  refine fg_X6_29 C hw ic0_3 dX6_hold_1 ?_
  refine lv_bipush (v := (120 : Int32)) hx hb dX6_hold_4 (by decide) ?_
  refine lv_icmp_lt (tgt := 10) hx hb dX6_hold_6 (by decide) (fun q_1 => ?_) (fun q_1 => ?_)
  · have hf := x_iP hf q_1
    refine lv_aload_n hx hb dX6_hold_10 rfl (lv_at hl 0 rfl) ?_
    refine fg_X6_25 (k2 := 13) C hw ic0_3 rfl dX6_hold_11 ?_
    refine lv_aload_n hx hb dX6_hold_14 rfl (lv_at hl 0 rfl) ?_
    refine fg_X6_29 C hw ic0_3 dX6_hold_15 ?_
    refine lv_iload_n hx hb dX6_hold_18 rfl (lv_at hl 1 rfl) ?_
    obtain ⟨q_2, hf⟩ := x_gE hf
    refine x_ast C hw ic0_13 q_2 rfl dX6_hold_19 (fun H locs hw => ?_)
    obtain ⟨M_3, eM_3⟩ : ∃ z, z = (x_up M 13 (M 3 3).toNatClampNeg a1) := ⟨_, rfl⟩
    rw [← eM_3] at hw
    have hf := x_lE eM_3 hf
    refine lv_aload_n hx hb dX6_hold_20 rfl (lv_at hl 0 rfl) ?_
    refine lv_dup hx hb dX6_hold_21 rfl ?_
    refine fg_X6_29 C hw ic0_3 dX6_hold_22 ?_
    refine lv_iconst (v := (1 : Int32)) hx hb dX6_hold_25 (by decide) ?_
    refine lv_iadd hx hb dX6_hold_26 ?_
    refine fp_X6_29 C hw ic0_3 dX6_hold_27 (fun H locs hw => ?_)
    obtain ⟨M_4, eM_4⟩ : ∃ z, z = (x_up M_3 3 3 ((M_3 3 3) + (1 : Int32))) := ⟨_, rfl⟩
    rw [← eM_4] at hw
    have hf := x_lE eM_4 hf
    exact ret hf dX6_hold_30 hw
  · have hf := x_iN hf q_1
    exact ret hf dX6_hold_9 hw
noncomputable def fX9_number_L7  : Nat → xM → Int32 → Int32 → Option (Int32 × xM)
  | 0, _, _, _ => none
  | n_5 + 1, M_4, x1_2, x2_3 => if (M_4 11 3) ≤ x2_3 then (some (x1_2, M_4)) else (x_g x2_3 120 (x_l ((((10 : Int32) * x1_2) + (M_4 14 x2_3.toNatClampNeg)) - (48 : Int32)) fun x1_9 => x_l (x2_3 + (1 : Int32)) fun x2_10 => fX9_number_L7 n_5 M_4 x1_9 x2_10))
noncomputable def fX9_number (M : xM)  : Option (Int32 × xM) := x_l (M 11 2) fun x2_1 => fX9_number_L7 x_FU M (0 : Int32) x2_1
set_option maxRecDepth 100000 in
set_option maxHeartbeats 4000000 in
theorem mX9_number (l : Launch) (g : xG)  {r : Int32} {M' : xM}  {M : xM} (hf : fX9_number M  = some (r, M')) : x_cI l g 0 yX9_number cX9_number 3 .int 0 0 [.ref (g.2.2.1 11)] M (fun v N => v = r ∧ N = M') := by
  refine x_stI RX9 (by decide) rfl (Nat.le_of_ble_eq_true rfl) ?_
  intro p e s m args below meth c Q ls C hw ret hl
  obtain ⟨hx, hb, hml, hown, hB, -⟩ := id C
  have hl : lv_has ls 3 [(0, .ref (g.2.2.1 11))] := hl
  unfold fX9_number at hf
  refine lv_iconst (v := (0 : Int32)) hx hb dX9_number_0 (by decide) ?_
  refine lv_istore_n (lv' := [(1, .int (0 : Int32)), (0, .ref (g.2.2.1 11))]) hx hb dX9_number_1 rfl hl (by decide) rfl (fun ls hl => ?_)
  refine lv_aload_n hx hb dX9_number_2 rfl (lv_at hl 1 rfl) ?_
  refine fg_X9_19 C hw ic0_11 dX9_number_3 ?_
  refine lv_topi (fun x2_1 ex2_1 => ?_)
  have hf := x_lE ex2_1 hf
  refine lv_istore_n (lv' := [(2, .int x2_1), (1, .int (0 : Int32)), (0, .ref (g.2.2.1 11))]) hx hb dX9_number_6 rfl hl (by decide) rfl (fun ls hl => ?_)
  have hL_11 : ∀ (n_5 : Nat) (H : Heap) (locs : List Loc) (M_4 : xM) (x1_2 : Int32) (x2_3 : Int32) (ls : Array Slot) , lv_has ls 3 [(0, .ref (g.2.2.1 11)), (1, .int x1_2), (2, .int x2_3)] → x_w g 0 s H locs M_4 → fX9_number_L7 n_5 M_4 x1_2 x2_3 = some (r, M') → W p l e (x_rm 0 0) s m args below meth c H locs 0 0 Q (F0 m 7 ls []) := by
    intro n_5
    induction n_5 with
    | zero =>
      intro H locs M_4 x1_2 x2_3 ls  hl hw hf
      rw [fX9_number_L7] at hf
      cases hf
    | succ n_5 ih_6 =>
      intro H locs M_4 x1_2 x2_3 ls  hl hw hf
      rw [fX9_number_L7] at hf
      refine lv_iload_n hx hb dX9_number_7 rfl (lv_at hl 2 rfl) ?_
      refine lv_aload_n hx hb dX9_number_8 rfl (lv_at hl 0 rfl) ?_
      refine fg_X9_22 C hw ic0_11 dX9_number_9 ?_
      refine lv_icmp_ge (tgt := 36) hx hb dX9_number_12 (by decide) (fun q_7 => ?_) (fun q_7 => ?_)
      · have hf := x_iP hf q_7
        refine lv_iload_n hx hb dX9_number_36 rfl (lv_at hl 1 rfl) ?_
        exact ret hf dX9_number_37 hw
      · have hf := x_iN hf q_7
        refine lv_bipush (v := (10 : Int32)) hx hb dX9_number_15 (by decide) ?_
        refine lv_iload_n hx hb dX9_number_17 rfl (lv_at hl 1 rfl) ?_
        refine lv_imul hx hb dX9_number_18 ?_
        refine lv_aload_n hx hb dX9_number_19 rfl (lv_at hl 0 rfl) ?_
        refine fg_X9_9 (k2 := 14) C hw ic0_11 rfl dX9_number_20 ?_
        refine lv_iload_n hx hb dX9_number_23 rfl (lv_at hl 2 rfl) ?_
        obtain ⟨q_8, hf⟩ := x_gE hf
        refine x_ald C hw ic0_14 q_8 rfl dX9_number_24 ?_
        refine lv_iadd hx hb dX9_number_25 ?_
        refine lv_bipush (v := (48 : Int32)) hx hb dX9_number_26 (by decide) ?_
        refine lv_isub hx hb dX9_number_28 ?_
        refine lv_topi (fun x1_9 ex1_9 => ?_)
        have hf := x_lE ex1_9 hf
        refine lv_istore_n (lv' := [(1, .int x1_9), (0, .ref (g.2.2.1 11)), (2, .int x2_3)]) hx hb dX9_number_29 rfl hl (by decide) rfl (fun ls hl => ?_)
        obtain ⟨x2_10, ex2_10⟩ : ∃ z : Int32, z = (x2_3 + (1 : Int32)) := ⟨_, rfl⟩
        have hf := x_lE ex2_10 hf
        refine lv_iinc (v := x2_10) (lv' := [(2, .int x2_10), (1, .int x1_9), (0, .ref (g.2.2.1 11))]) hx hb dX9_number_30 hl (k := 2) rfl (by rw [ex2_10]; rfl) (by decide) rfl (fun ls hl => ?_)
        refine lv_goto (tgt := 7) hx hb dX9_number_33 (by decide) ?_
        exact ih_6 _ _ _ _ _ _ (lv_sub hl [2, 1, 0] rfl) hw hf
  exact hL_11 _ _ _ _ _ _ _ (lv_sub hl [2, 1, 0] rfl) hw hf
noncomputable def fX6_topHeld (M : xM)  : Option (Int32 × xM) := if (M 3 3) ≤ 0 then (some ((0 : Int32), M)) else (x_g ((M 3 3) - (1 : Int32)) 120 (some ((M 13 ((M 3 3) - (1 : Int32)).toNatClampNeg), M)))
set_option maxRecDepth 100000 in
set_option maxHeartbeats 4000000 in
theorem mX6_topHeld (l : Launch) (g : xG)  {r : Int32} {M' : xM}  {M : xM} (hf : fX6_topHeld M  = some (r, M')) : x_cI l g 0 yX6_topHeld cX6_topHeld 1 .int 0 0 [.ref (g.2.2.1 3)] M (fun v N => v = r ∧ N = M') := by
  refine x_stI RX6 (by decide) rfl (Nat.le_of_ble_eq_true rfl) ?_
  intro p e s m args below meth c Q ls C hw ret hl
  obtain ⟨hx, hb, hml, hown, hB, -⟩ := id C
  have hl : lv_has ls 1 [(0, .ref (g.2.2.1 3))] := hl
  unfold fX6_topHeld at hf
  refine lv_aload_n hx hb dX6_topHeld_0 rfl (lv_at hl 0 rfl) ?_
  refine fg_X6_29 C hw ic0_3 dX6_topHeld_1 ?_
  refine lv_if_le (tgt := 21) hx hb dX6_topHeld_4 (by decide) (fun q_1 => ?_) (fun q_1 => ?_)
  · have hf := x_iP hf q_1
    refine lv_iconst (v := (0 : Int32)) hx hb dX6_topHeld_21 (by decide) ?_
    exact ret hf dX6_topHeld_22 hw
  · have hf := x_iN hf q_1
    refine lv_aload_n hx hb dX6_topHeld_7 rfl (lv_at hl 0 rfl) ?_
    refine fg_X6_25 (k2 := 13) C hw ic0_3 rfl dX6_topHeld_8 ?_
    refine lv_aload_n hx hb dX6_topHeld_11 rfl (lv_at hl 0 rfl) ?_
    refine fg_X6_29 C hw ic0_3 dX6_topHeld_12 ?_
    refine lv_iconst (v := (1 : Int32)) hx hb dX6_topHeld_15 (by decide) ?_
    refine lv_isub hx hb dX6_topHeld_16 ?_
    obtain ⟨q_2, hf⟩ := x_gE hf
    refine x_ald C hw ic0_13 q_2 rfl dX6_topHeld_17 ?_
    refine lv_goto (tgt := 22) hx hb dX6_topHeld_18 (by decide) ?_
    exact ret hf dX6_topHeld_22 hw
noncomputable def fX6_endPart_L2 (k52_1 : xM → Option (xM)) : Nat → xM → Int32 → Option (xM)
  | 0, _, _ => none
  | n_6 + 1, M_5, x1_4 => if (8 : Int32) ≤ x1_4 then (k52_1 M_5) else (x_b (fX6_topHeld M_5) fun v_11 M_9 => if v_11 = (33 : Int32) then (x_v (fX3_write M_9 (-33 : Int32)) fun M_13 => x_l (x_up M_13 3 3 ((M_13 3 3) - (1 : Int32))) fun M_15 => x_l (x_up M_15 3 5 ((M_15 3 5) - (1 : Int32))) fun M_16 => x_l (x1_4 + (1 : Int32)) fun x1_17 => fX6_endPart_L2 k52_1 n_6 M_16 x1_17) else (k52_1 M_9))
noncomputable def fX6_endPart (M : xM)  : Option (xM) := x_l (fun (M_2 : xM) => x_l (x_up M_2 3 7 (0 : Int32)) fun M_3 => some M_3) fun k52_1 => fX6_endPart_L2 k52_1 x_FU M (0 : Int32)
set_option maxRecDepth 100000 in
set_option maxHeartbeats 4000000 in
theorem mX6_endPart (l : Launch) (g : xG)  {M' : xM}  {M : xM} (hf : fX6_endPart M  = some M') : x_cV l g 0 yX6_endPart cX6_endPart 2 1 21 [.ref (g.2.2.1 3)] M (fun N => N = M') := by
  refine x_stV RX6 (by decide) rfl (Nat.le_of_ble_eq_true rfl) ?_
  intro p e s m args below meth c Q ls C hw ret hl
  obtain ⟨hx, hb, hml, hown, hB, -⟩ := id C
  have hl : lv_has ls 2 [(0, .ref (g.2.2.1 3))] := hl
  unfold fX6_endPart at hf
  refine lv_iconst (v := (0 : Int32)) hx hb dX6_endPart_0 (by decide) ?_
  refine lv_istore_n (lv' := [(1, .int (0 : Int32)), (0, .ref (g.2.2.1 3))]) hx hb dX6_endPart_1 rfl hl (by decide) rfl (fun ls hl => ?_)
  obtain ⟨k52_1, ek52_1, hf⟩ := x_jE hf
  have hk52_1 : ∀ (H : Heap) (locs : List Loc) (M_2 : xM)  (ls : Array Slot) , lv_has ls 2 [(0, .ref (g.2.2.1 3))] → x_w g 0 s H locs M_2 → k52_1 M_2 = some M' → W p l e (x_rm 1 21) s m args below meth c H locs 0 0 Q (F0 m 52 ls []) := by
    intro H locs M_2  ls  hl hw hf
    rw [ek52_1] at hf
    refine lv_aload_n hx hb dX6_endPart_52 rfl (lv_at hl 0 rfl) ?_
    refine lv_iconst (v := (0 : Int32)) hx hb dX6_endPart_53 (by decide) ?_
    refine fp_X6_42 C hw (⟨rfl, rfl⟩ : _ ∧ _) ic0_3 dX6_endPart_54 (fun H locs hw => ?_)
    obtain ⟨M_3, eM_3⟩ : ∃ z, z = (x_up M_2 3 7 (0 : Int32)) := ⟨_, rfl⟩
    rw [← eM_3] at hw
    have hf := x_lE eM_3 hf
    exact ret hf dX6_endPart_57 hw
  have hL_18 : ∀ (n_6 : Nat) (H : Heap) (locs : List Loc) (M_5 : xM) (x1_4 : Int32) (ls : Array Slot) , lv_has ls 2 [(0, .ref (g.2.2.1 3)), (1, .int x1_4)] → x_w g 0 s H locs M_5 → fX6_endPart_L2 k52_1 n_6 M_5 x1_4 = some M' → W p l e (x_rm 1 21) s m args below meth c H locs 0 0 Q (F0 m 2 ls []) := by
    intro n_6
    induction n_6 with
    | zero =>
      intro H locs M_5 x1_4 ls  hl hw hf
      rw [fX6_endPart_L2] at hf
      cases hf
    | succ n_6 ih_7 =>
      intro H locs M_5 x1_4 ls  hl hw hf
      rw [fX6_endPart_L2] at hf
      refine lv_iload_n hx hb dX6_endPart_2 rfl (lv_at hl 1 rfl) ?_
      refine lv_bipush (v := (8 : Int32)) hx hb dX6_endPart_3 (by decide) ?_
      refine lv_icmp_ge (tgt := 52) hx hb dX6_endPart_5 (by decide) (fun q_8 => ?_) (fun q_8 => ?_)
      · have hf := x_iP hf q_8
        exact hk52_1 _ _ _ _ (lv_sub hl [0] rfl) hw hf
      · have hf := x_iN hf q_8
        refine lv_aload_n hx hb dX6_endPart_8 rfl (lv_at hl 0 rfl) ?_
        obtain ⟨tv_11, tM_9, c_10, hf⟩ := x_bE hf
        refine x_vI C hw hl.1 [] [] (mX6_topHeld l g c_10) lk_X6_142 ic0_3 (by decide) rfl (by decide) rfl (Nat.le_of_ble_eq_true rfl) ⟨Nat.zero_le _, Nat.zero_le _⟩ dX6_endPart_9 (fun v_11 M_9 H locs hN hw => ?_)
        obtain ⟨rfl, rfl⟩ := hN
        refine lv_bipush (v := (33 : Int32)) hx hb dX6_endPart_12 (by decide) ?_
        refine lv_icmp_ne (tgt := 52) hx hb dX6_endPart_14 (by decide) (fun q_12 => ?_) (fun q_12 => ?_)
        · have hf := x_iN hf q_12
          exact hk52_1 _ _ _ _ (lv_sub hl [0] rfl) hw hf
        · have hf := x_iP hf q_12
          refine lv_aload_n hx hb dX6_endPart_17 rfl (lv_at hl 0 rfl) ?_
          refine fg_X6_21 (k2 := 12) C hw ic0_3 rfl dX6_endPart_18 ?_
          refine lv_bipush (v := (-33 : Int32)) hx hb dX6_endPart_21 (by decide) ?_
          obtain ⟨tM_13, c_14, hf⟩ := x_vE hf
          refine x_vV C hw hl.1 [.int (-33 : Int32)] [] (mX3_write l g c_14) lk_X6_127 ic0_12 (by decide) rfl (by decide) rfl (Nat.le_of_ble_eq_true rfl) ⟨Nat.zero_le _, Nat.zero_le _⟩ dX6_endPart_23 (fun M_13 H locs hN hw => ?_)
          obtain rfl := hN
          refine lv_aload_n hx hb dX6_endPart_26 rfl (lv_at hl 0 rfl) ?_
          refine lv_dup hx hb dX6_endPart_27 rfl ?_
          refine fg_X6_29 C hw ic0_3 dX6_endPart_28 ?_
          refine lv_iconst (v := (1 : Int32)) hx hb dX6_endPart_31 (by decide) ?_
          refine lv_isub hx hb dX6_endPart_32 ?_
          refine fp_X6_29 C hw ic0_3 dX6_endPart_33 (fun H locs hw => ?_)
          obtain ⟨M_15, eM_15⟩ : ∃ z, z = (x_up M_13 3 3 ((M_13 3 3) - (1 : Int32))) := ⟨_, rfl⟩
          rw [← eM_15] at hw
          have hf := x_lE eM_15 hf
          refine lv_aload_n hx hb dX6_endPart_36 rfl (lv_at hl 0 rfl) ?_
          refine lv_dup hx hb dX6_endPart_37 rfl ?_
          refine fg_X6_36 C hw ic0_3 dX6_endPart_38 ?_
          refine lv_iconst (v := (1 : Int32)) hx hb dX6_endPart_41 (by decide) ?_
          refine lv_isub hx hb dX6_endPart_42 ?_
          refine fp_X6_36 C hw ic0_3 dX6_endPart_43 (fun H locs hw => ?_)
          obtain ⟨M_16, eM_16⟩ : ∃ z, z = (x_up M_15 3 5 ((M_15 3 5) - (1 : Int32))) := ⟨_, rfl⟩
          rw [← eM_16] at hw
          have hf := x_lE eM_16 hf
          obtain ⟨x1_17, ex1_17⟩ : ∃ z : Int32, z = (x1_4 + (1 : Int32)) := ⟨_, rfl⟩
          have hf := x_lE ex1_17 hf
          refine lv_iinc (v := x1_17) (lv' := [(1, .int x1_17), (0, .ref (g.2.2.1 3))]) hx hb dX6_endPart_46 hl (k := 1) rfl (by rw [ex1_17]; rfl) (by decide) rfl (fun ls hl => ?_)
          refine lv_goto (tgt := 2) hx hb dX6_endPart_49 (by decide) ?_
          exact ih_7 _ _ _ _ _ (lv_sub hl [1, 0] rfl) hw hf
  exact hL_18 _ _ _ _ _ _ (lv_sub hl [1, 0] rfl) hw hf
noncomputable def fX6_tightnessOf (M : xM) (a1 : Int32) : Option (Int32 × xM) := if a1 = (38 : Int32) then (some ((2 : Int32), M)) else (if a1 = (42 : Int32) then (some ((5 : Int32), M)) else (if a1 = (43 : Int32) then (some ((4 : Int32), M)) else (if a1 = (45 : Int32) then (some ((4 : Int32), M)) else (if a1 = (47 : Int32) then (some ((5 : Int32), M)) else (if a1 = (60 : Int32) then (some ((3 : Int32), M)) else (if a1 = (61 : Int32) then (some ((3 : Int32), M)) else (if a1 = (62 : Int32) then (some ((3 : Int32), M)) else (if a1 = (124 : Int32) then (some ((1 : Int32), M)) else (some ((0 : Int32), M))))))))))
set_option maxRecDepth 100000 in
set_option maxHeartbeats 4000000 in
theorem mX6_tightnessOf (l : Launch) (g : xG) {a1 : Int32} {r : Int32} {M' : xM}  {M : xM} (hf : fX6_tightnessOf M a1 = some (r, M')) : x_cI l g 0 yX6_tightnessOf cX6_tightnessOf 1 .int 0 0 [.int a1] M (fun v N => v = r ∧ N = M') := by
  refine x_stI RX6 (by decide) rfl (Nat.le_of_ble_eq_true rfl) ?_
  intro p e s m args below meth c Q ls C hw ret hl
  obtain ⟨hx, hb, hml, hown, hB, -⟩ := id C
  have hl : lv_has ls 1 [(0, .int a1)] := hl
  unfold fX6_tightnessOf at hf
  refine lv_iload_n hx hb dX6_tightnessOf_0 rfl (lv_at hl 0 rfl) ?_
  by_cases q_1 : a1 = (38 : Int32)
  · have hf := x_iP hf q_1
    refine lv_lookup (off := 85) (tgt := 86) hx hb dX6_tightnessOf_1 (by decide) (by rw [q_1]; rfl) (by decide) ?_
    refine lv_iconst (v := (2 : Int32)) hx hb dX6_tightnessOf_86 (by decide) ?_
    exact ret hf dX6_tightnessOf_87 hw
  have hf := x_iN hf q_1
  by_cases q_2 : a1 = (42 : Int32)
  · have hf := x_iP hf q_2
    refine lv_lookup (off := 91) (tgt := 92) hx hb dX6_tightnessOf_1 (by decide) (by rw [q_2]; rfl) (by decide) ?_
    refine lv_iconst (v := (5 : Int32)) hx hb dX6_tightnessOf_92 (by decide) ?_
    exact ret hf dX6_tightnessOf_93 hw
  have hf := x_iN hf q_2
  by_cases q_3 : a1 = (43 : Int32)
  · have hf := x_iP hf q_3
    refine lv_lookup (off := 89) (tgt := 90) hx hb dX6_tightnessOf_1 (by decide) (by rw [q_3]; rfl) (by decide) ?_
    refine lv_iconst (v := (4 : Int32)) hx hb dX6_tightnessOf_90 (by decide) ?_
    exact ret hf dX6_tightnessOf_91 hw
  have hf := x_iN hf q_3
  by_cases q_4 : a1 = (45 : Int32)
  · have hf := x_iP hf q_4
    refine lv_lookup (off := 89) (tgt := 90) hx hb dX6_tightnessOf_1 (by decide) (by rw [q_4]; rfl) (by decide) ?_
    refine lv_iconst (v := (4 : Int32)) hx hb dX6_tightnessOf_90 (by decide) ?_
    exact ret hf dX6_tightnessOf_91 hw
  have hf := x_iN hf q_4
  by_cases q_5 : a1 = (47 : Int32)
  · have hf := x_iP hf q_5
    refine lv_lookup (off := 91) (tgt := 92) hx hb dX6_tightnessOf_1 (by decide) (by rw [q_5]; rfl) (by decide) ?_
    refine lv_iconst (v := (5 : Int32)) hx hb dX6_tightnessOf_92 (by decide) ?_
    exact ret hf dX6_tightnessOf_93 hw
  have hf := x_iN hf q_5
  by_cases q_6 : a1 = (60 : Int32)
  · have hf := x_iP hf q_6
    refine lv_lookup (off := 87) (tgt := 88) hx hb dX6_tightnessOf_1 (by decide) (by rw [q_6]; rfl) (by decide) ?_
    refine lv_iconst (v := (3 : Int32)) hx hb dX6_tightnessOf_88 (by decide) ?_
    exact ret hf dX6_tightnessOf_89 hw
  have hf := x_iN hf q_6
  by_cases q_7 : a1 = (61 : Int32)
  · have hf := x_iP hf q_7
    refine lv_lookup (off := 87) (tgt := 88) hx hb dX6_tightnessOf_1 (by decide) (by rw [q_7]; rfl) (by decide) ?_
    refine lv_iconst (v := (3 : Int32)) hx hb dX6_tightnessOf_88 (by decide) ?_
    exact ret hf dX6_tightnessOf_89 hw
  have hf := x_iN hf q_7
  by_cases q_8 : a1 = (62 : Int32)
  · have hf := x_iP hf q_8
    refine lv_lookup (off := 87) (tgt := 88) hx hb dX6_tightnessOf_1 (by decide) (by rw [q_8]; rfl) (by decide) ?_
    refine lv_iconst (v := (3 : Int32)) hx hb dX6_tightnessOf_88 (by decide) ?_
    exact ret hf dX6_tightnessOf_89 hw
  have hf := x_iN hf q_8
  by_cases q_9 : a1 = (124 : Int32)
  · have hf := x_iP hf q_9
    refine lv_lookup (off := 83) (tgt := 84) hx hb dX6_tightnessOf_1 (by decide) (by rw [q_9]; rfl) (by decide) ?_
    refine lv_iconst (v := (1 : Int32)) hx hb dX6_tightnessOf_84 (by decide) ?_
    exact ret hf dX6_tightnessOf_85 hw
  have hf := x_iN hf q_9
  refine lv_lookup (off := 93) (tgt := 94) hx hb dX6_tightnessOf_1 (by decide) ((lv_osw q_1 rfl).trans ((lv_osw q_2 rfl).trans ((lv_osw q_3 rfl).trans ((lv_osw q_4 rfl).trans ((lv_osw q_5 rfl).trans ((lv_osw q_6 rfl).trans ((lv_osw q_7 rfl).trans ((lv_osw q_8 rfl).trans ((lv_osw q_9 rfl).trans (rfl)))))))))) (by decide) ?_
  refine lv_iconst (v := (0 : Int32)) hx hb dX6_tightnessOf_94 (by decide) ?_
  exact ret hf dX6_tightnessOf_95 hw
noncomputable def fX6_release_L2 (a1 : Int32) : Nat → xM → Int32 → Option (xM)
  | 0, _, _ => none
  | n_3 + 1, M_2, x2_1 => if (120 : Int32) ≤ x2_1 then (some M_2) else (x_b (fX6_topHeld M_2) fun v_8 M_6 => x_b (fX6_tightnessOf M_6 v_8) fun v_11 M_9 => if v_11 < a1 then (some M_9) else (x_b (fX6_topHeld M_9) fun v_15 M_13 => x_v (fX3_write M_13 (-v_15)) fun M_16 => x_l (x_up M_16 3 3 ((M_16 3 3) - (1 : Int32))) fun M_18 => x_l (x2_1 + (1 : Int32)) fun x2_19 => fX6_release_L2 a1 n_3 M_18 x2_19))
noncomputable def fX6_release (M : xM) (a1 : Int32) : Option (xM) := fX6_release_L2 a1 x_FU M (0 : Int32)
set_option maxRecDepth 100000 in
set_option maxHeartbeats 4000000 in
theorem mX6_release (l : Launch) (g : xG) {a1 : Int32} {M' : xM}  {M : xM} (hf : fX6_release M a1 = some M') : x_cV l g 0 yX6_release cX6_release 3 1 21 [.ref (g.2.2.1 3), .int a1] M (fun N => N = M') := by
  refine x_stV RX6 (by decide) rfl (Nat.le_of_ble_eq_true rfl) ?_
  intro p e s m args below meth c Q ls C hw ret hl
  obtain ⟨hx, hb, hml, hown, hB, -⟩ := id C
  have hl : lv_has ls 3 [(0, .ref (g.2.2.1 3)), (1, .int a1)] := hl
  unfold fX6_release at hf
  refine lv_iconst (v := (0 : Int32)) hx hb dX6_release_0 (by decide) ?_
  refine lv_istore_n (lv' := [(2, .int (0 : Int32)), (0, .ref (g.2.2.1 3)), (1, .int a1)]) hx hb dX6_release_1 rfl hl (by decide) rfl (fun ls hl => ?_)
  have hL_20 : ∀ (n_3 : Nat) (H : Heap) (locs : List Loc) (M_2 : xM) (x2_1 : Int32) (ls : Array Slot) , lv_has ls 3 [(0, .ref (g.2.2.1 3)), (1, .int a1), (2, .int x2_1)] → x_w g 0 s H locs M_2 → fX6_release_L2 a1 n_3 M_2 x2_1 = some M' → W p l e (x_rm 1 21) s m args below meth c H locs 0 0 Q (F0 m 2 ls []) := by
    intro n_3
    induction n_3 with
    | zero =>
      intro H locs M_2 x2_1 ls  hl hw hf
      rw [fX6_release_L2] at hf
      cases hf
    | succ n_3 ih_4 =>
      intro H locs M_2 x2_1 ls  hl hw hf
      rw [fX6_release_L2] at hf
      refine lv_iload_n hx hb dX6_release_2 rfl (lv_at hl 2 rfl) ?_
      refine lv_bipush (v := (120 : Int32)) hx hb dX6_release_3 (by decide) ?_
      refine lv_icmp_ge (tgt := 47) hx hb dX6_release_5 (by decide) (fun q_5 => ?_) (fun q_5 => ?_)
      · have hf := x_iP hf q_5
        exact ret hf dX6_release_47 hw
      · have hf := x_iN hf q_5
        refine lv_aload_n hx hb dX6_release_8 rfl (lv_at hl 0 rfl) ?_
        obtain ⟨tv_8, tM_6, c_7, hf⟩ := x_bE hf
        refine x_vI C hw hl.1 [] [] (mX6_topHeld l g c_7) lk_X6_142 ic0_3 (by decide) rfl (by decide) rfl (Nat.le_of_ble_eq_true rfl) ⟨Nat.zero_le _, Nat.zero_le _⟩ dX6_release_9 (fun v_8 M_6 H locs hN hw => ?_)
        obtain ⟨rfl, rfl⟩ := hN
        obtain ⟨tv_11, tM_9, c_10, hf⟩ := x_bE hf
        refine x_sI C hw hl.1 [.int v_8] [] (mX6_tightnessOf l g c_10) lk_X6_148 (by decide) rfl (Nat.le_of_ble_eq_true rfl) ⟨Nat.zero_le _, Nat.zero_le _⟩ dX6_release_12 (fun v_11 M_9 H locs hN hw => ?_)
        obtain ⟨rfl, rfl⟩ := hN
        refine lv_iload_n hx hb dX6_release_15 rfl (lv_at hl 1 rfl) ?_
        refine lv_icmp_lt (tgt := 47) hx hb dX6_release_16 (by decide) (fun q_12 => ?_) (fun q_12 => ?_)
        · have hf := x_iP hf q_12
          exact ret hf dX6_release_47 hw
        · have hf := x_iN hf q_12
          refine lv_aload_n hx hb dX6_release_19 rfl (lv_at hl 0 rfl) ?_
          refine fg_X6_21 (k2 := 12) C hw ic0_3 rfl dX6_release_20 ?_
          refine lv_aload_n hx hb dX6_release_23 rfl (lv_at hl 0 rfl) ?_
          obtain ⟨tv_15, tM_13, c_14, hf⟩ := x_bE hf
          refine x_vI C hw hl.1 [] [.ref (g.2.2.1 12)] (mX6_topHeld l g c_14) lk_X6_142 ic0_3 (by decide) rfl (by decide) rfl (Nat.le_of_ble_eq_true rfl) ⟨Nat.zero_le _, Nat.zero_le _⟩ dX6_release_24 (fun v_15 M_13 H locs hN hw => ?_)
          obtain ⟨rfl, rfl⟩ := hN
          refine lv_ineg hx hb dX6_release_27 ?_
          obtain ⟨tM_16, c_17, hf⟩ := x_vE hf
          refine x_vV C hw hl.1 [.int (-v_15)] [] (mX3_write l g c_17) lk_X6_127 ic0_12 (by decide) rfl (by decide) rfl (Nat.le_of_ble_eq_true rfl) ⟨Nat.zero_le _, Nat.zero_le _⟩ dX6_release_28 (fun M_16 H locs hN hw => ?_)
          obtain rfl := hN
          refine lv_aload_n hx hb dX6_release_31 rfl (lv_at hl 0 rfl) ?_
          refine lv_dup hx hb dX6_release_32 rfl ?_
          refine fg_X6_29 C hw ic0_3 dX6_release_33 ?_
          refine lv_iconst (v := (1 : Int32)) hx hb dX6_release_36 (by decide) ?_
          refine lv_isub hx hb dX6_release_37 ?_
          refine fp_X6_29 C hw ic0_3 dX6_release_38 (fun H locs hw => ?_)
          obtain ⟨M_18, eM_18⟩ : ∃ z, z = (x_up M_16 3 3 ((M_16 3 3) - (1 : Int32))) := ⟨_, rfl⟩
          rw [← eM_18] at hw
          have hf := x_lE eM_18 hf
          obtain ⟨x2_19, ex2_19⟩ : ∃ z : Int32, z = (x2_1 + (1 : Int32)) := ⟨_, rfl⟩
          have hf := x_lE ex2_19 hf
          refine lv_iinc (v := x2_19) (lv' := [(2, .int x2_19), (0, .ref (g.2.2.1 3)), (1, .int a1)]) hx hb dX6_release_41 hl (k := 2) rfl (by rw [ex2_19]; rfl) (by decide) rfl (fun ls hl => ?_)
          refine lv_goto (tgt := 2) hx hb dX6_release_44 (by decide) ?_
          exact ih_4 _ _ _ _ _ (lv_sub hl [1, 2, 0] rfl) hw hf
  exact hL_20 _ _ _ _ _ _ (lv_sub hl [1, 2, 0] rfl) hw hf
noncomputable def fX6_endSection (M : xM)  : Option (xM) := x_v (fX6_release M (1 : Int32)) fun M_1 => x_g (M_1 3 6) 3 (x_l (x_up M_1 16 (M_1 3 6).toNatClampNeg (M_1 12 2)) fun M_4 => some M_4)
set_option maxRecDepth 100000 in
set_option maxHeartbeats 4000000 in
theorem mX6_endSection (l : Launch) (g : xG)  {M' : xM}  {M : xM} (hf : fX6_endSection M  = some M') : x_cV l g 0 yX6_endSection cX6_endSection 1 2 43 [.ref (g.2.2.1 3)] M (fun N => N = M') := by
  refine x_stV RX6 (by decide) rfl (Nat.le_of_ble_eq_true rfl) ?_
  intro p e s m args below meth c Q ls C hw ret hl
  obtain ⟨hx, hb, hml, hown, hB, -⟩ := id C
  have hl : lv_has ls 1 [(0, .ref (g.2.2.1 3))] := hl
  unfold fX6_endSection at hf
  refine lv_aload_n hx hb dX6_endSection_0 rfl (lv_at hl 0 rfl) ?_
  refine lv_iconst (v := (1 : Int32)) hx hb dX6_endSection_1 (by decide) ?_
  obtain ⟨tM_1, c_2, hf⟩ := x_vE hf
  refine x_vV C hw hl.1 [.int (1 : Int32)] [] (mX6_release l g c_2) lk_X6_105 ic0_3 (by decide) rfl (by decide) rfl (Nat.le_of_ble_eq_true rfl) ⟨Nat.zero_le _, Nat.zero_le _⟩ dX6_endSection_2 (fun M_1 H locs hN hw => ?_)
  obtain rfl := hN
  refine lv_aload_n hx hb dX6_endSection_5 rfl (lv_at hl 0 rfl) ?_
  refine fg_X6_21 (k2 := 12) C hw ic0_3 rfl dX6_endSection_6 ?_
  refine fg_X6_109 (k2 := 16) C hw ic0_12 rfl dX6_endSection_9 ?_
  refine lv_aload_n hx hb dX6_endSection_12 rfl (lv_at hl 0 rfl) ?_
  refine fg_X6_39 C hw ic0_3 dX6_endSection_13 ?_
  refine lv_aload_n hx hb dX6_endSection_16 rfl (lv_at hl 0 rfl) ?_
  refine fg_X6_21 (k2 := 12) C hw ic0_3 rfl dX6_endSection_17 ?_
  refine fg_X6_74 C hw ic0_12 dX6_endSection_20 ?_
  obtain ⟨q_3, hf⟩ := x_gE hf
  refine x_ast C hw ic0_16 q_3 rfl dX6_endSection_23 (fun H locs hw => ?_)
  obtain ⟨M_4, eM_4⟩ : ∃ z, z = (x_up M_1 16 (M_1 3 6).toNatClampNeg (M_1 12 2)) := ⟨_, rfl⟩
  rw [← eM_4] at hw
  have hf := x_lE eM_4 hf
  exact ret hf dX6_endSection_24 hw
noncomputable def fX6_closes (M : xM)  : Option (Int32 × xM) := if (M 3 4) = 0 then (some ((0 : Int32), M)) else (x_v (fX6_release M (1 : Int32)) fun M_2 => x_b (fX6_topHeld M_2) fun v_6 M_4 => x_l (fun (M_8 : xM) => x_l (x_up M_8 3 4 ((M_8 3 4) - (1 : Int32))) fun M_9 => x_v (fX6_endPart M_9) fun M_10 => some ((1 : Int32), M_10)) fun k33_7 => if v_6 = (40 : Int32) then (x_l (x_up M_4 3 3 ((M_4 3 3) - (1 : Int32))) fun M_13 => k33_7 M_13) else (k33_7 M_4))
set_option maxRecDepth 100000 in
set_option maxHeartbeats 4000000 in
theorem mX6_closes (l : Launch) (g : xG)  {r : Int32} {M' : xM}  {M : xM} (hf : fX6_closes M  = some (r, M')) : x_cI l g 0 yX6_closes cX6_closes 1 .boolean 2 43 [.ref (g.2.2.1 3)] M (fun v N => v = r ∧ N = M') := by
  refine x_stZ RX6 (by decide) rfl (Nat.le_of_ble_eq_true rfl) ?_
  intro p e s m args below meth c Q ls C hw ret hl
  obtain ⟨hx, hb, hml, hown, hB, -⟩ := id C
  have hl : lv_has ls 1 [(0, .ref (g.2.2.1 3))] := hl
  unfold fX6_closes at hf
  refine lv_aload_n hx hb dX6_closes_0 rfl (lv_at hl 0 rfl) ?_
  refine fg_X6_33 C hw ic0_3 dX6_closes_1 ?_
  refine lv_if_ne (tgt := 9) hx hb dX6_closes_4 (by decide) (fun q_1 => ?_) (fun q_1 => ?_)
  · have hf := x_iN hf q_1
    refine lv_aload_n hx hb dX6_closes_9 rfl (lv_at hl 0 rfl) ?_
    refine lv_iconst (v := (1 : Int32)) hx hb dX6_closes_10 (by decide) ?_
    obtain ⟨tM_2, c_3, hf⟩ := x_vE hf
    refine x_vV C hw hl.1 [.int (1 : Int32)] [] (mX6_release l g c_3) lk_X6_105 ic0_3 (by decide) rfl (by decide) rfl (Nat.le_of_ble_eq_true rfl) ⟨Nat.zero_le _, Nat.zero_le _⟩ dX6_closes_11 (fun M_2 H locs hN hw => ?_)
    obtain rfl := hN
    refine lv_aload_n hx hb dX6_closes_14 rfl (lv_at hl 0 rfl) ?_
    obtain ⟨tv_6, tM_4, c_5, hf⟩ := x_bE hf
    refine x_vI C hw hl.1 [] [] (mX6_topHeld l g c_5) lk_X6_142 ic0_3 (by decide) rfl (by decide) rfl (Nat.le_of_ble_eq_true rfl) ⟨Nat.zero_le _, Nat.zero_le _⟩ dX6_closes_15 (fun v_6 M_4 H locs hN hw => ?_)
    obtain ⟨rfl, rfl⟩ := hN
    refine lv_bipush (v := (40 : Int32)) hx hb dX6_closes_18 (by decide) ?_
    obtain ⟨k33_7, ek33_7, hf⟩ := x_jE hf
    have hk33_7 : ∀ (H : Heap) (locs : List Loc) (M_8 : xM)  (ls : Array Slot) , lv_has ls 1 [(0, .ref (g.2.2.1 3))] → x_w g 0 s H locs M_8 → k33_7 M_8 = some (r, M') → W p l e (x_rm 2 43) s m args below meth c H locs 0 0 Q (F0 m 33 ls []) := by
      intro H locs M_8  ls  hl hw hf
      rw [ek33_7] at hf
      refine lv_aload_n hx hb dX6_closes_33 rfl (lv_at hl 0 rfl) ?_
      refine lv_dup hx hb dX6_closes_34 rfl ?_
      refine fg_X6_33 C hw ic0_3 dX6_closes_35 ?_
      refine lv_iconst (v := (1 : Int32)) hx hb dX6_closes_38 (by decide) ?_
      refine lv_isub hx hb dX6_closes_39 ?_
      refine fp_X6_33 C hw ic0_3 dX6_closes_40 (fun H locs hw => ?_)
      obtain ⟨M_9, eM_9⟩ : ∃ z, z = (x_up M_8 3 4 ((M_8 3 4) - (1 : Int32))) := ⟨_, rfl⟩
      rw [← eM_9] at hw
      have hf := x_lE eM_9 hf
      refine lv_aload_n hx hb dX6_closes_43 rfl (lv_at hl 0 rfl) ?_
      obtain ⟨tM_10, c_11, hf⟩ := x_vE hf
      refine x_vV C hw hl.1 [] [] (mX6_endPart l g c_11) lk_X6_139 ic0_3 (by decide) rfl (by decide) rfl (Nat.le_of_ble_eq_true rfl) ⟨Nat.zero_le _, Nat.zero_le _⟩ dX6_closes_44 (fun M_10 H locs hN hw => ?_)
      obtain rfl := hN
      refine lv_iconst (v := (1 : Int32)) hx hb dX6_closes_47 (by decide) ?_
      exact ret ((x_zl1 _).trans hf) dX6_closes_48 hw
    refine lv_icmp_ne (tgt := 33) hx hb dX6_closes_20 (by decide) (fun q_12 => ?_) (fun q_12 => ?_)
    · have hf := x_iN hf q_12
      exact hk33_7 _ _ _ _ (lv_sub hl [0] rfl) hw hf
    · have hf := x_iP hf q_12
      refine lv_aload_n hx hb dX6_closes_23 rfl (lv_at hl 0 rfl) ?_
      refine lv_dup hx hb dX6_closes_24 rfl ?_
      refine fg_X6_29 C hw ic0_3 dX6_closes_25 ?_
      refine lv_iconst (v := (1 : Int32)) hx hb dX6_closes_28 (by decide) ?_
      refine lv_isub hx hb dX6_closes_29 ?_
      refine fp_X6_29 C hw ic0_3 dX6_closes_30 (fun H locs hw => ?_)
      obtain ⟨M_13, eM_13⟩ : ∃ z, z = (x_up M_4 3 3 ((M_4 3 3) - (1 : Int32))) := ⟨_, rfl⟩
      rw [← eM_13] at hw
      have hf := x_lE eM_13 hf
      exact hk33_7 _ _ _ _ (lv_sub hl [0] rfl) hw hf
  · have hf := x_iP hf q_1
    refine lv_iconst (v := (0 : Int32)) hx hb dX6_closes_7 (by decide) ?_
    exact ret ((x_zl0 _).trans hf) dX6_closes_8 hw
noncomputable def fX6_takesSign (M : xM) (a1 : Int32) : Option (Int32 × xM) := if a1 = (41 : Int32) then (x_b (fX6_closes M) fun v_25 M_23 => x_z v_25 (some (v_25, M_23))) else (x_b (fX6_tightnessOf M a1) fun v_4 M_2 => if v_4 = 0 then (some ((0 : Int32), M_2)) else (x_l (fun (M_7 : xM) => x_v (fX6_release M_7 v_4) fun M_8 => x_v (fX6_hold M_8 a1) fun M_10 => x_l (x_up M_10 3 7 (1 : Int32)) fun M_12 => some ((1 : Int32), M_12)) fun k45_6 => if v_4 = (3 : Int32) then (x_v (fX6_release M_2 (4 : Int32)) fun M_14 => x_b (fX6_topHeld M_14) fun v_18 M_16 => x_b (fX6_tightnessOf M_16 v_18) fun v_21 M_19 => if v_21 = (3 : Int32) then (some ((0 : Int32), M_19)) else (k45_6 M_19)) else (k45_6 M_2)))
set_option maxRecDepth 100000 in
set_option maxHeartbeats 4000000 in
theorem mX6_takesSign (l : Launch) (g : xG) {a1 : Int32} {r : Int32} {M' : xM}  {M : xM} (hf : fX6_takesSign M a1 = some (r, M')) : x_cI l g 0 yX6_takesSign cX6_takesSign 3 .boolean 3 63 [.ref (g.2.2.1 3), .int a1] M (fun v N => v = r ∧ N = M') := by
  refine x_stZ RX6 (by decide) rfl (Nat.le_of_ble_eq_true rfl) ?_
  intro p e s m args below meth c Q ls C hw ret hl
  obtain ⟨hx, hb, hml, hown, hB, -⟩ := id C
  have hl : lv_has ls 3 [(0, .ref (g.2.2.1 3)), (1, .int a1)] := hl
  unfold fX6_takesSign at hf
  refine lv_iload_n hx hb dX6_takesSign_0 rfl (lv_at hl 1 rfl) ?_
  refine lv_bipush (v := (41 : Int32)) hx hb dX6_takesSign_1 (by decide) ?_
  refine lv_icmp_ne (tgt := 11) hx hb dX6_takesSign_3 (by decide) (fun q_1 => ?_) (fun q_1 => ?_)
  · have hf := x_iN hf q_1
    refine lv_iload_n hx hb dX6_takesSign_11 rfl (lv_at hl 1 rfl) ?_
    obtain ⟨tv_4, tM_2, c_3, hf⟩ := x_bE hf
    refine x_sI C hw hl.1 [.int a1] [] (mX6_tightnessOf l g c_3) lk_X6_148 (by decide) rfl (Nat.le_of_ble_eq_true rfl) ⟨Nat.zero_le _, Nat.zero_le _⟩ dX6_takesSign_12 (fun v_4 M_2 H locs hN hw => ?_)
    obtain ⟨rfl, rfl⟩ := hN
    refine lv_istore_n (lv' := [(2, .int v_4), (0, .ref (g.2.2.1 3)), (1, .int a1)]) hx hb dX6_takesSign_15 rfl hl (by decide) rfl (fun ls hl => ?_)
    refine lv_iload_n hx hb dX6_takesSign_16 rfl (lv_at hl 0 rfl) ?_
    refine lv_if_ne (tgt := 22) hx hb dX6_takesSign_17 (by decide) (fun q_5 => ?_) (fun q_5 => ?_)
    · have hf := x_iN hf q_5
      refine lv_iload_n hx hb dX6_takesSign_22 rfl (lv_at hl 0 rfl) ?_
      refine lv_iconst (v := (3 : Int32)) hx hb dX6_takesSign_23 (by decide) ?_
      obtain ⟨k45_6, ek45_6, hf⟩ := x_jE hf
      have hk45_6 : ∀ (H : Heap) (locs : List Loc) (M_7 : xM)  (ls : Array Slot) , lv_has ls 3 [(2, .int v_4), (0, .ref (g.2.2.1 3)), (1, .int a1)] → x_w g 0 s H locs M_7 → k45_6 M_7 = some (r, M') → W p l e (x_rm 3 63) s m args below meth c H locs 0 0 Q (F0 m 45 ls []) := by
        intro H locs M_7  ls  hl hw hf
        rw [ek45_6] at hf
        refine lv_aload_n hx hb dX6_takesSign_45 rfl (lv_at hl 1 rfl) ?_
        refine lv_iload_n hx hb dX6_takesSign_46 rfl (lv_at hl 0 rfl) ?_
        obtain ⟨tM_8, c_9, hf⟩ := x_vE hf
        refine x_vV C hw hl.1 [.int v_4] [] (mX6_release l g c_9) lk_X6_105 ic0_3 (by decide) rfl (by decide) rfl (Nat.le_of_ble_eq_true rfl) ⟨Nat.zero_le _, Nat.zero_le _⟩ dX6_takesSign_47 (fun M_8 H locs hN hw => ?_)
        obtain rfl := hN
        refine lv_aload_n hx hb dX6_takesSign_50 rfl (lv_at hl 1 rfl) ?_
        refine lv_iload_n hx hb dX6_takesSign_51 rfl (lv_at hl 2 rfl) ?_
        obtain ⟨tM_10, c_11, hf⟩ := x_vE hf
        refine x_vV C hw hl.1 [.int a1] [] (mX6_hold l g c_11) lk_X6_112 ic0_3 (by decide) rfl (by decide) rfl (Nat.le_of_ble_eq_true rfl) ⟨Nat.zero_le _, Nat.zero_le _⟩ dX6_takesSign_52 (fun M_10 H locs hN hw => ?_)
        obtain rfl := hN
        refine lv_aload_n hx hb dX6_takesSign_55 rfl (lv_at hl 1 rfl) ?_
        refine lv_iconst (v := (1 : Int32)) hx hb dX6_takesSign_56 (by decide) ?_
        refine fp_X6_42 C hw (⟨rfl, rfl⟩ : _ ∧ _) ic0_3 dX6_takesSign_57 (fun H locs hw => ?_)
        obtain ⟨M_12, eM_12⟩ : ∃ z, z = (x_up M_10 3 7 (1 : Int32)) := ⟨_, rfl⟩
        rw [← eM_12] at hw
        have hf := x_lE eM_12 hf
        refine lv_iconst (v := (1 : Int32)) hx hb dX6_takesSign_60 (by decide) ?_
        exact ret ((x_zl1 _).trans hf) dX6_takesSign_61 hw
      refine lv_icmp_ne (tgt := 45) hx hb dX6_takesSign_24 (by decide) (fun q_13 => ?_) (fun q_13 => ?_)
      · have hf := x_iN hf q_13
        exact hk45_6 _ _ _ _ (lv_sub hl [0, 1, 2] rfl) hw hf
      · have hf := x_iP hf q_13
        refine lv_aload_n hx hb dX6_takesSign_27 rfl (lv_at hl 1 rfl) ?_
        refine lv_iconst (v := (4 : Int32)) hx hb dX6_takesSign_28 (by decide) ?_
        obtain ⟨tM_14, c_15, hf⟩ := x_vE hf
        refine x_vV C hw hl.1 [.int (4 : Int32)] [] (mX6_release l g c_15) lk_X6_105 ic0_3 (by decide) rfl (by decide) rfl (Nat.le_of_ble_eq_true rfl) ⟨Nat.zero_le _, Nat.zero_le _⟩ dX6_takesSign_29 (fun M_14 H locs hN hw => ?_)
        obtain rfl := hN
        refine lv_aload_n hx hb dX6_takesSign_32 rfl (lv_at hl 1 rfl) ?_
        obtain ⟨tv_18, tM_16, c_17, hf⟩ := x_bE hf
        refine x_vI C hw hl.1 [] [] (mX6_topHeld l g c_17) lk_X6_142 ic0_3 (by decide) rfl (by decide) rfl (Nat.le_of_ble_eq_true rfl) ⟨Nat.zero_le _, Nat.zero_le _⟩ dX6_takesSign_33 (fun v_18 M_16 H locs hN hw => ?_)
        obtain ⟨rfl, rfl⟩ := hN
        obtain ⟨tv_21, tM_19, c_20, hf⟩ := x_bE hf
        refine x_sI C hw hl.1 [.int v_18] [] (mX6_tightnessOf l g c_20) lk_X6_148 (by decide) rfl (Nat.le_of_ble_eq_true rfl) ⟨Nat.zero_le _, Nat.zero_le _⟩ dX6_takesSign_36 (fun v_21 M_19 H locs hN hw => ?_)
        obtain ⟨rfl, rfl⟩ := hN
        refine lv_iconst (v := (3 : Int32)) hx hb dX6_takesSign_39 (by decide) ?_
        refine lv_icmp_ne (tgt := 45) hx hb dX6_takesSign_40 (by decide) (fun q_22 => ?_) (fun q_22 => ?_)
        · have hf := x_iN hf q_22
          exact hk45_6 _ _ _ _ (lv_sub hl [0, 1, 2] rfl) hw hf
        · have hf := x_iP hf q_22
          refine lv_iconst (v := (0 : Int32)) hx hb dX6_takesSign_43 (by decide) ?_
          exact ret ((x_zl0 _).trans hf) dX6_takesSign_44 hw
    · have hf := x_iP hf q_5
      refine lv_iconst (v := (0 : Int32)) hx hb dX6_takesSign_20 (by decide) ?_
      exact ret ((x_zl0 _).trans hf) dX6_takesSign_21 hw
  · have hf := x_iP hf q_1
    refine lv_aload_n hx hb dX6_takesSign_6 rfl (lv_at hl 0 rfl) ?_
    obtain ⟨tv_25, tM_23, c_24, hf⟩ := x_bE hf
    refine x_vI C hw hl.1 [] [] (mX6_closes l g c_24) lk_X6_145 ic0_3 (by decide) rfl (by decide) rfl (Nat.le_of_ble_eq_true rfl) ⟨Nat.zero_le _, Nat.zero_le _⟩ dX6_takesSign_7 (fun v_25 M_23 H locs hN hw => ?_)
    obtain ⟨rfl, rfl⟩ := hN
    exact ret hf dX6_takesSign_10 hw
noncomputable def fX7_set (M : xM) (a1 : Int32) (a2 : Int32) : Option (xM) := x_b (fX9_isLetter M a1) fun v_3 M_1 => if v_3 = 0 then (some M_1) else (x_g (a1 - (97 : Int32)) 26 (x_l (x_up M_1 29 (a1 - (97 : Int32)).toNatClampNeg a2) fun M_6 => some M_6))
set_option maxRecDepth 100000 in
set_option maxHeartbeats 4000000 in
theorem mX7_set (l : Launch) (g : xG) {a1 : Int32} {a2 : Int32} {M' : xM}  {M : xM} (hf : fX7_set M a1 a2 = some M') : x_cV l g 0 yX7_set cX7_set 3 1 20 [.ref (g.2.2.1 28), .int a1, .int a2] M (fun N => N = M') := by
  refine x_stV RX7 (by decide) rfl (Nat.le_of_ble_eq_true rfl) ?_
  intro p e s m args below meth c Q ls C hw ret hl
  obtain ⟨hx, hb, hml, hown, hB, -⟩ := id C
  have hl : lv_has ls 3 [(0, .ref (g.2.2.1 28)), (1, .int a1), (2, .int a2)] := hl
  unfold fX7_set at hf
  refine lv_iload_n hx hb dX7_set_0 rfl (lv_at hl 1 rfl) ?_
  obtain ⟨tv_3, tM_1, c_2, hf⟩ := x_bE hf
  refine x_sI C hw hl.1 [.int a1] [] (mX9_isLetter l g c_2) lk_X7_18 (by decide) rfl (Nat.le_of_ble_eq_true rfl) ⟨Nat.zero_le _, Nat.zero_le _⟩ dX7_set_1 (fun v_3 M_1 H locs hN hw => ?_)
  obtain ⟨rfl, rfl⟩ := hN
  refine lv_if_eq (tgt := 17) hx hb dX7_set_4 (by decide) (fun q_4 => ?_) (fun q_4 => ?_)
  · have hf := x_iP hf q_4
    exact ret hf dX7_set_17 hw
  · have hf := x_iN hf q_4
    refine lv_aload_n hx hb dX7_set_7 rfl (lv_at hl 0 rfl) ?_
    refine fg_X7_9 (k2 := 29) C hw ic0_28 rfl dX7_set_8 ?_
    refine lv_iload_n hx hb dX7_set_11 rfl (lv_at hl 1 rfl) ?_
    refine lv_bipush (v := (97 : Int32)) hx hb dX7_set_12 (by decide) ?_
    refine lv_isub hx hb dX7_set_14 ?_
    refine lv_iload_n hx hb dX7_set_15 rfl (lv_at hl 2 rfl) ?_
    obtain ⟨q_5, hf⟩ := x_gE hf
    refine x_ast C hw ic0_29 q_5 rfl dX7_set_16 (fun H locs hw => ?_)
    obtain ⟨M_6, eM_6⟩ : ∃ z, z = (x_up M_1 29 (a1 - (97 : Int32)).toNatClampNeg a2) := ⟨_, rfl⟩
    rw [← eM_6] at hw
    have hf := x_lE eM_6 hf
    exact ret hf dX7_set_17 hw
noncomputable def fX10_oneIf (M : xM) (a1 : Int32) : Option (Int32 × xM) := if a1 = 0 then (some ((0 : Int32), M)) else (some ((1 : Int32), M))
set_option maxRecDepth 100000 in
set_option maxHeartbeats 4000000 in
theorem mX10_oneIf (l : Launch) (g : xG) {a1 : Int32} {r : Int32} {M' : xM}  {M : xM} (hf : fX10_oneIf M a1 = some (r, M')) : x_cI l g 0 yX10_oneIf cX10_oneIf 1 .int 0 0 [.int a1] M (fun v N => v = r ∧ N = M') := by
  refine x_stI RX10 (by decide) rfl (Nat.le_of_ble_eq_true rfl) ?_
  intro p e s m args below meth c Q ls C hw ret hl
  obtain ⟨hx, hb, hml, hown, hB, -⟩ := id C
  have hl : lv_has ls 1 [(0, .int a1)] := hl
  unfold fX10_oneIf at hf
  refine lv_iload_n hx hb dX10_oneIf_0 rfl (lv_at hl 0 rfl) ?_
  refine lv_if_eq (tgt := 8) hx hb dX10_oneIf_1 (by decide) (fun q_1 => ?_) (fun q_1 => ?_)
  · have hf := x_iP hf q_1
    refine lv_iconst (v := (0 : Int32)) hx hb dX10_oneIf_8 (by decide) ?_
    exact ret hf dX10_oneIf_9 hw
  · have hf := x_iN hf q_1
    refine lv_iconst (v := (1 : Int32)) hx hb dX10_oneIf_4 (by decide) ?_
    refine lv_goto (tgt := 9) hx hb dX10_oneIf_5 (by decide) ?_
    exact ret hf dX10_oneIf_9 hw
noncomputable def fX7_join (M : xM) (a1 : Int32) (a2 : Int32) (a3 : Int32) : Option (Int32 × xM) := if a1 = (38 : Int32) then (x_l (fun (M_4 : xM) (z_2 : Int32) => x_b (fX10_oneIf M_4 z_2) fun v_7 M_5 => some (v_7, M_5)) fun k106_3 => x_l (fun (M_9 : xM) => k106_3 M_9 (0 : Int32)) fun k105_8 => if a2 = 0 then (k105_8 M) else (if a3 = 0 then (k105_8 M) else (k106_3 M (1 : Int32)))) else (if a1 = (42 : Int32) then (some ((a2 * a3), M)) else (if a1 = (43 : Int32) then (some ((a2 + a3), M)) else (if a1 = (45 : Int32) then (some ((a2 - a3), M)) else (if a1 = (60 : Int32) then (x_l (fun (M_18 : xM) (z_16 : Int32) => x_b (fX10_oneIf M_18 z_16) fun v_21 M_19 => some (v_21, M_19)) fun k120_17 => if a3 ≤ a2 then (k120_17 M (0 : Int32)) else (k120_17 M (1 : Int32))) else (if a1 = (61 : Int32) then (x_l (fun (M_26 : xM) (z_24 : Int32) => x_b (fX10_oneIf M_26 z_24) fun v_29 M_27 => some (v_29, M_27)) fun k134_25 => if a2 = a3 then (k134_25 M (1 : Int32)) else (k134_25 M (0 : Int32))) else (if a1 = (62 : Int32) then (x_l (fun (M_34 : xM) (z_32 : Int32) => x_b (fX10_oneIf M_34 z_32) fun v_37 M_35 => some (v_37, M_35)) fun k148_33 => if a2 ≤ a3 then (k148_33 M (0 : Int32)) else (k148_33 M (1 : Int32))) else (if a1 = (124 : Int32) then (x_l (fun (M_42 : xM) (z_40 : Int32) => x_b (fX10_oneIf M_42 z_40) fun v_45 M_43 => some (v_45, M_43)) fun k89_41 => x_l (fun (M_47 : xM) => k89_41 M_47 (1 : Int32)) fun k84_46 => if a2 = 0 then (if a3 = 0 then (k89_41 M (0 : Int32)) else (k84_46 M)) else (k84_46 M)) else (if a3 = 0 then (some ((0 : Int32), M)) else (x_d a3 (some ((a2 / a3), M)))))))))))
set_option maxRecDepth 100000 in
set_option maxHeartbeats 4000000 in
theorem mX7_join (l : Launch) (g : xG) {a1 : Int32} {a2 : Int32} {a3 : Int32} {r : Int32} {M' : xM}  {M : xM} (hf : fX7_join M a1 a2 a3 = some (r, M')) : x_cI l g 0 yX7_join cX7_join 3 .int 1 20 [.int a1, .int a2, .int a3] M (fun v N => v = r ∧ N = M') := by
  refine x_stI RX7 (by decide) rfl (Nat.le_of_ble_eq_true rfl) ?_
  intro p e s m args below meth c Q ls C hw ret hl
  obtain ⟨hx, hb, hml, hown, hB, -⟩ := id C
  have hl : lv_has ls 3 [(0, .int a1), (1, .int a2), (2, .int a3)] := hl
  unfold fX7_join at hf
  refine lv_iload_n hx hb dX7_join_0 rfl (lv_at hl 0 rfl) ?_
  by_cases q_1 : a1 = (38 : Int32)
  · have hf := x_iP hf q_1
    refine lv_lookup (off := 92) (tgt := 93) hx hb dX7_join_1 (by decide) (by rw [q_1]; rfl) (by decide) ?_
    refine lv_iload_n hx hb dX7_join_93 rfl (lv_at hl 1 rfl) ?_
    obtain ⟨k106_3, ek106_3, hf⟩ := x_jE hf
    have hk106_3 : ∀ (H : Heap) (locs : List Loc) (M_4 : xM) (z_2 : Int32) (ls : Array Slot) , lv_has ls 3 [] → x_w g 0 s H locs M_4 → k106_3 M_4 z_2 = some (r, M') → W p l e (x_rm 1 20) s m args below meth c H locs 0 0 Q (F0 m 106 ls [.int z_2]) := by
      intro H locs M_4 z_2 ls  hl hw hf
      rw [ek106_3] at hf
      obtain ⟨tv_7, tM_5, c_6, hf⟩ := x_bE hf
      refine x_nI C hw hl.1 [.int z_2] [] (mX10_oneIf l g c_6) lk_X7_32 (by decide) rfl (Nat.le_of_ble_eq_true rfl) ⟨Nat.zero_le _, Nat.zero_le _⟩ dX7_join_106 (fun v_7 M_5 H locs hN hw => ?_)
      obtain ⟨rfl, rfl⟩ := hN
      exact ret hf dX7_join_109 hw
    obtain ⟨k105_8, ek105_8, hf⟩ := x_jE hf
    have hk105_8 : ∀ (H : Heap) (locs : List Loc) (M_9 : xM)  (ls : Array Slot) , lv_has ls 3 [] → x_w g 0 s H locs M_9 → k105_8 M_9 = some (r, M') → W p l e (x_rm 1 20) s m args below meth c H locs 0 0 Q (F0 m 105 ls []) := by
      intro H locs M_9  ls  hl hw hf
      rw [ek105_8] at hf
      refine lv_iconst (v := (0 : Int32)) hx hb dX7_join_105 (by decide) ?_
      exact hk106_3 _ _ _ _ _ (lv_sub hl [] rfl) hw hf
    refine lv_if_eq (tgt := 105) hx hb dX7_join_94 (by decide) (fun q_10 => ?_) (fun q_10 => ?_)
    · have hf := x_iP hf q_10
      exact hk105_8 _ _ _ _ (lv_sub hl [] rfl) hw hf
    · have hf := x_iN hf q_10
      refine lv_iload_n hx hb dX7_join_97 rfl (lv_at hl 2 rfl) ?_
      refine lv_if_eq (tgt := 105) hx hb dX7_join_98 (by decide) (fun q_11 => ?_) (fun q_11 => ?_)
      · have hf := x_iP hf q_11
        exact hk105_8 _ _ _ _ (lv_sub hl [] rfl) hw hf
      · have hf := x_iN hf q_11
        refine lv_iconst (v := (1 : Int32)) hx hb dX7_join_101 (by decide) ?_
        refine lv_goto (tgt := 106) hx hb dX7_join_102 (by decide) ?_
        exact hk106_3 _ _ _ _ _ (lv_sub hl [] rfl) hw hf
  have hf := x_iN hf q_1
  by_cases q_12 : a1 = (42 : Int32)
  · have hf := x_iP hf q_12
    refine lv_lookup (off := 159) (tgt := 160) hx hb dX7_join_1 (by decide) (by rw [q_12]; rfl) (by decide) ?_
    refine lv_iload_n hx hb dX7_join_160 rfl (lv_at hl 1 rfl) ?_
    refine lv_iload_n hx hb dX7_join_161 rfl (lv_at hl 2 rfl) ?_
    refine lv_imul hx hb dX7_join_162 ?_
    exact ret hf dX7_join_163 hw
  have hf := x_iN hf q_12
  by_cases q_13 : a1 = (43 : Int32)
  · have hf := x_iP hf q_13
    refine lv_lookup (off := 151) (tgt := 152) hx hb dX7_join_1 (by decide) (by rw [q_13]; rfl) (by decide) ?_
    refine lv_iload_n hx hb dX7_join_152 rfl (lv_at hl 1 rfl) ?_
    refine lv_iload_n hx hb dX7_join_153 rfl (lv_at hl 2 rfl) ?_
    refine lv_iadd hx hb dX7_join_154 ?_
    exact ret hf dX7_join_155 hw
  have hf := x_iN hf q_13
  by_cases q_14 : a1 = (45 : Int32)
  · have hf := x_iP hf q_14
    refine lv_lookup (off := 155) (tgt := 156) hx hb dX7_join_1 (by decide) (by rw [q_14]; rfl) (by decide) ?_
    refine lv_iload_n hx hb dX7_join_156 rfl (lv_at hl 1 rfl) ?_
    refine lv_iload_n hx hb dX7_join_157 rfl (lv_at hl 2 rfl) ?_
    refine lv_isub hx hb dX7_join_158 ?_
    exact ret hf dX7_join_159 hw
  have hf := x_iN hf q_14
  by_cases q_15 : a1 = (60 : Int32)
  · have hf := x_iP hf q_15
    refine lv_lookup (off := 109) (tgt := 110) hx hb dX7_join_1 (by decide) (by rw [q_15]; rfl) (by decide) ?_
    refine lv_iload_n hx hb dX7_join_110 rfl (lv_at hl 1 rfl) ?_
    refine lv_iload_n hx hb dX7_join_111 rfl (lv_at hl 2 rfl) ?_
    obtain ⟨k120_17, ek120_17, hf⟩ := x_jE hf
    have hk120_17 : ∀ (H : Heap) (locs : List Loc) (M_18 : xM) (z_16 : Int32) (ls : Array Slot) , lv_has ls 3 [] → x_w g 0 s H locs M_18 → k120_17 M_18 z_16 = some (r, M') → W p l e (x_rm 1 20) s m args below meth c H locs 0 0 Q (F0 m 120 ls [.int z_16]) := by
      intro H locs M_18 z_16 ls  hl hw hf
      rw [ek120_17] at hf
      obtain ⟨tv_21, tM_19, c_20, hf⟩ := x_bE hf
      refine x_nI C hw hl.1 [.int z_16] [] (mX10_oneIf l g c_20) lk_X7_32 (by decide) rfl (Nat.le_of_ble_eq_true rfl) ⟨Nat.zero_le _, Nat.zero_le _⟩ dX7_join_120 (fun v_21 M_19 H locs hN hw => ?_)
      obtain ⟨rfl, rfl⟩ := hN
      exact ret hf dX7_join_123 hw
    refine lv_icmp_ge (tgt := 119) hx hb dX7_join_112 (by decide) (fun q_22 => ?_) (fun q_22 => ?_)
    · have hf := x_iP hf q_22
      refine lv_iconst (v := (0 : Int32)) hx hb dX7_join_119 (by decide) ?_
      exact hk120_17 _ _ _ _ _ (lv_sub hl [] rfl) hw hf
    · have hf := x_iN hf q_22
      refine lv_iconst (v := (1 : Int32)) hx hb dX7_join_115 (by decide) ?_
      refine lv_goto (tgt := 120) hx hb dX7_join_116 (by decide) ?_
      exact hk120_17 _ _ _ _ _ (lv_sub hl [] rfl) hw hf
  have hf := x_iN hf q_15
  by_cases q_23 : a1 = (61 : Int32)
  · have hf := x_iP hf q_23
    refine lv_lookup (off := 123) (tgt := 124) hx hb dX7_join_1 (by decide) (by rw [q_23]; rfl) (by decide) ?_
    refine lv_iload_n hx hb dX7_join_124 rfl (lv_at hl 1 rfl) ?_
    refine lv_iload_n hx hb dX7_join_125 rfl (lv_at hl 2 rfl) ?_
    obtain ⟨k134_25, ek134_25, hf⟩ := x_jE hf
    have hk134_25 : ∀ (H : Heap) (locs : List Loc) (M_26 : xM) (z_24 : Int32) (ls : Array Slot) , lv_has ls 3 [] → x_w g 0 s H locs M_26 → k134_25 M_26 z_24 = some (r, M') → W p l e (x_rm 1 20) s m args below meth c H locs 0 0 Q (F0 m 134 ls [.int z_24]) := by
      intro H locs M_26 z_24 ls  hl hw hf
      rw [ek134_25] at hf
      obtain ⟨tv_29, tM_27, c_28, hf⟩ := x_bE hf
      refine x_nI C hw hl.1 [.int z_24] [] (mX10_oneIf l g c_28) lk_X7_32 (by decide) rfl (Nat.le_of_ble_eq_true rfl) ⟨Nat.zero_le _, Nat.zero_le _⟩ dX7_join_134 (fun v_29 M_27 H locs hN hw => ?_)
      obtain ⟨rfl, rfl⟩ := hN
      exact ret hf dX7_join_137 hw
    refine lv_icmp_ne (tgt := 133) hx hb dX7_join_126 (by decide) (fun q_30 => ?_) (fun q_30 => ?_)
    · have hf := x_iN hf q_30
      refine lv_iconst (v := (0 : Int32)) hx hb dX7_join_133 (by decide) ?_
      exact hk134_25 _ _ _ _ _ (lv_sub hl [] rfl) hw hf
    · have hf := x_iP hf q_30
      refine lv_iconst (v := (1 : Int32)) hx hb dX7_join_129 (by decide) ?_
      refine lv_goto (tgt := 134) hx hb dX7_join_130 (by decide) ?_
      exact hk134_25 _ _ _ _ _ (lv_sub hl [] rfl) hw hf
  have hf := x_iN hf q_23
  by_cases q_31 : a1 = (62 : Int32)
  · have hf := x_iP hf q_31
    refine lv_lookup (off := 137) (tgt := 138) hx hb dX7_join_1 (by decide) (by rw [q_31]; rfl) (by decide) ?_
    refine lv_iload_n hx hb dX7_join_138 rfl (lv_at hl 1 rfl) ?_
    refine lv_iload_n hx hb dX7_join_139 rfl (lv_at hl 2 rfl) ?_
    obtain ⟨k148_33, ek148_33, hf⟩ := x_jE hf
    have hk148_33 : ∀ (H : Heap) (locs : List Loc) (M_34 : xM) (z_32 : Int32) (ls : Array Slot) , lv_has ls 3 [] → x_w g 0 s H locs M_34 → k148_33 M_34 z_32 = some (r, M') → W p l e (x_rm 1 20) s m args below meth c H locs 0 0 Q (F0 m 148 ls [.int z_32]) := by
      intro H locs M_34 z_32 ls  hl hw hf
      rw [ek148_33] at hf
      obtain ⟨tv_37, tM_35, c_36, hf⟩ := x_bE hf
      refine x_nI C hw hl.1 [.int z_32] [] (mX10_oneIf l g c_36) lk_X7_32 (by decide) rfl (Nat.le_of_ble_eq_true rfl) ⟨Nat.zero_le _, Nat.zero_le _⟩ dX7_join_148 (fun v_37 M_35 H locs hN hw => ?_)
      obtain ⟨rfl, rfl⟩ := hN
      exact ret hf dX7_join_151 hw
    refine lv_icmp_le (tgt := 147) hx hb dX7_join_140 (by decide) (fun q_38 => ?_) (fun q_38 => ?_)
    · have hf := x_iP hf q_38
      refine lv_iconst (v := (0 : Int32)) hx hb dX7_join_147 (by decide) ?_
      exact hk148_33 _ _ _ _ _ (lv_sub hl [] rfl) hw hf
    · have hf := x_iN hf q_38
      refine lv_iconst (v := (1 : Int32)) hx hb dX7_join_143 (by decide) ?_
      refine lv_goto (tgt := 148) hx hb dX7_join_144 (by decide) ?_
      exact hk148_33 _ _ _ _ _ (lv_sub hl [] rfl) hw hf
  have hf := x_iN hf q_31
  by_cases q_39 : a1 = (124 : Int32)
  · have hf := x_iP hf q_39
    refine lv_lookup (off := 75) (tgt := 76) hx hb dX7_join_1 (by decide) (by rw [q_39]; rfl) (by decide) ?_
    refine lv_iload_n hx hb dX7_join_76 rfl (lv_at hl 1 rfl) ?_
    obtain ⟨k89_41, ek89_41, hf⟩ := x_jE hf
    have hk89_41 : ∀ (H : Heap) (locs : List Loc) (M_42 : xM) (z_40 : Int32) (ls : Array Slot) , lv_has ls 3 [] → x_w g 0 s H locs M_42 → k89_41 M_42 z_40 = some (r, M') → W p l e (x_rm 1 20) s m args below meth c H locs 0 0 Q (F0 m 89 ls [.int z_40]) := by
      intro H locs M_42 z_40 ls  hl hw hf
      rw [ek89_41] at hf
      obtain ⟨tv_45, tM_43, c_44, hf⟩ := x_bE hf
      refine x_nI C hw hl.1 [.int z_40] [] (mX10_oneIf l g c_44) lk_X7_32 (by decide) rfl (Nat.le_of_ble_eq_true rfl) ⟨Nat.zero_le _, Nat.zero_le _⟩ dX7_join_89 (fun v_45 M_43 H locs hN hw => ?_)
      obtain ⟨rfl, rfl⟩ := hN
      exact ret hf dX7_join_92 hw
    obtain ⟨k84_46, ek84_46, hf⟩ := x_jE hf
    have hk84_46 : ∀ (H : Heap) (locs : List Loc) (M_47 : xM)  (ls : Array Slot) , lv_has ls 3 [] → x_w g 0 s H locs M_47 → k84_46 M_47 = some (r, M') → W p l e (x_rm 1 20) s m args below meth c H locs 0 0 Q (F0 m 84 ls []) := by
      intro H locs M_47  ls  hl hw hf
      rw [ek84_46] at hf
      refine lv_iconst (v := (1 : Int32)) hx hb dX7_join_84 (by decide) ?_
      refine lv_goto (tgt := 89) hx hb dX7_join_85 (by decide) ?_
      exact hk89_41 _ _ _ _ _ (lv_sub hl [] rfl) hw hf
    refine lv_if_ne (tgt := 84) hx hb dX7_join_77 (by decide) (fun q_48 => ?_) (fun q_48 => ?_)
    · have hf := x_iN hf q_48
      exact hk84_46 _ _ _ _ (lv_sub hl [] rfl) hw hf
    · have hf := x_iP hf q_48
      refine lv_iload_n hx hb dX7_join_80 rfl (lv_at hl 2 rfl) ?_
      refine lv_if_eq (tgt := 88) hx hb dX7_join_81 (by decide) (fun q_49 => ?_) (fun q_49 => ?_)
      · have hf := x_iP hf q_49
        refine lv_iconst (v := (0 : Int32)) hx hb dX7_join_88 (by decide) ?_
        exact hk89_41 _ _ _ _ _ (lv_sub hl [] rfl) hw hf
      · have hf := x_iN hf q_49
        exact hk84_46 _ _ _ _ (lv_sub hl [] rfl) hw hf
  have hf := x_iN hf q_39
  refine lv_lookup (off := 163) (tgt := 164) hx hb dX7_join_1 (by decide) ((lv_osw q_1 rfl).trans ((lv_osw q_12 rfl).trans ((lv_osw q_13 rfl).trans ((lv_osw q_14 rfl).trans ((lv_osw q_15 rfl).trans ((lv_osw q_23 rfl).trans ((lv_osw q_31 rfl).trans ((lv_osw q_39 rfl).trans (rfl))))))))) (by decide) ?_
  refine lv_iload_n hx hb dX7_join_164 rfl (lv_at hl 2 rfl) ?_
  refine lv_if_ne (tgt := 172) hx hb dX7_join_165 (by decide) (fun q_50 => ?_) (fun q_50 => ?_)
  · have hf := x_iN hf q_50
    refine lv_iload_n hx hb dX7_join_172 rfl (lv_at hl 1 rfl) ?_
    refine lv_iload_n hx hb dX7_join_173 rfl (lv_at hl 2 rfl) ?_
    obtain ⟨q_51, hf⟩ := x_dE hf
    refine lv_idiv hx hb dX7_join_174 q_51 ?_
    exact ret hf dX7_join_175 hw
  · have hf := x_iP hf q_50
    refine lv_iconst (v := (0 : Int32)) hx hb dX7_join_168 (by decide) ?_
    refine lv_goto (tgt := 175) hx hb dX7_join_169 (by decide) ?_
    exact ret hf dX7_join_175 hw
