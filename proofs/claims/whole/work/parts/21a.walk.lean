noncomputable def fX0_begin (M : xM) (k0 : Nat) (a1 : Int32) (a2 : Int32) (a3 : Int32) (a4 : Int32) : Option (xM) := x_l (x_up M k0 0 a1) fun M_1 => x_l (x_up M_1 k0 1 a2) fun M_2 => x_l (x_up M_2 k0 2 a3) fun M_3 => x_l (x_up M_3 k0 3 a4) fun M_4 => x_l (x_up M_4 k0 4 (-1 : Int32)) fun M_5 => some M_5
set_option maxRecDepth 100000 in
set_option maxHeartbeats 4000000 in
theorem mX0_begin (l : Launch) (g : xG) {k0 : Nat} {a1 : Int32} {a2 : Int32} {a3 : Int32} {a4 : Int32} {M' : xM} (h0 : x_is 0 k0 0) {M : xM} (hf : fX0_begin M k0 a1 a2 a3 a4 = some M') : x_cV l g 0 yX0_begin cX0_begin 5 0 0 [.ref (g.2.2.1 k0), .int a1, .int a2, .int a3, .int a4] M (fun N => N = M') := by
  refine x_stV RX0 (by decide) rfl (Nat.le_of_ble_eq_true rfl) ?_
  intro p e s m args below meth c Q ls C hw ret hl
  obtain ⟨hx, hb, hml, hown, hB, -⟩ := id C
  have hl : lv_has ls 5 [(0, .ref (g.2.2.1 k0)), (1, .int a1), (2, .int a2), (3, .int a3), (4, .int a4)] := hl
  unfold fX0_begin at hf
  refine lv_aload_n hx hb dX0_begin_0 rfl (lv_at hl 0 rfl) ?_
  refine lv_iload_n hx hb dX0_begin_1 rfl (lv_at hl 1 rfl) ?_
  refine fp_X0_9 C hw h0 dX0_begin_2 (fun H locs hw => ?_)
  obtain ⟨M_1, eM_1⟩ : ∃ z, z = (x_up M k0 0 a1) := ⟨_, rfl⟩
  rw [← eM_1] at hw
  have hf := x_lE eM_1 hf
  refine lv_aload_n hx hb dX0_begin_5 rfl (lv_at hl 0 rfl) ?_
  refine lv_iload_n hx hb dX0_begin_6 rfl (lv_at hl 2 rfl) ?_
  refine fp_X0_15 C hw h0 dX0_begin_7 (fun H locs hw => ?_)
  obtain ⟨M_2, eM_2⟩ : ∃ z, z = (x_up M_1 k0 1 a2) := ⟨_, rfl⟩
  rw [← eM_2] at hw
  have hf := x_lE eM_2 hf
  refine lv_aload_n hx hb dX0_begin_10 rfl (lv_at hl 0 rfl) ?_
  refine lv_iload_n hx hb dX0_begin_11 rfl (lv_at hl 3 rfl) ?_
  refine fp_X0_18 C hw h0 dX0_begin_12 (fun H locs hw => ?_)
  obtain ⟨M_3, eM_3⟩ : ∃ z, z = (x_up M_2 k0 2 a3) := ⟨_, rfl⟩
  rw [← eM_3] at hw
  have hf := x_lE eM_3 hf
  refine lv_aload_n hx hb dX0_begin_15 rfl (lv_at hl 0 rfl) ?_
  refine lv_iload hx hb dX0_begin_16 (lv_at hl 4 rfl) ?_
  refine fp_X0_21 C hw h0 dX0_begin_18 (fun H locs hw => ?_)
  obtain ⟨M_4, eM_4⟩ : ∃ z, z = (x_up M_3 k0 3 a4) := ⟨_, rfl⟩
  rw [← eM_4] at hw
  have hf := x_lE eM_4 hf
  refine lv_aload_n hx hb dX0_begin_21 rfl (lv_at hl 0 rfl) ?_
  refine lv_iconst (v := (-1 : Int32)) hx hb dX0_begin_22 (by decide) ?_
  refine fp_X0_24 C hw h0 dX0_begin_23 (fun H locs hw => ?_)
  obtain ⟨M_5, eM_5⟩ : ∃ z, z = (x_up M_4 k0 4 (-1 : Int32)) := ⟨_, rfl⟩
  rw [← eM_5] at hw
  have hf := x_lE eM_5 hf
  exact ret hf dX0_begin_26 hw
noncomputable def fX0_become (M : xM) (k0 : Nat) (a1 : Nat) : Option (xM) := x_v (fX0_begin M k0 (M a1 0) (M a1 1) (M a1 2) (M a1 3)) fun M_1 => x_l (x_up M_1 k0 4 (M_1 a1 4)) fun M_3 => some M_3
set_option maxRecDepth 100000 in
set_option maxHeartbeats 4000000 in
theorem mX0_become (l : Launch) (g : xG) {k0 : Nat} {a1 : Nat} {M' : xM} (h0 : x_is 0 k0 0) (ha1 : x_is 0 a1 0) {M : xM} (hf : fX0_become M k0 a1 = some M') : x_cV l g 0 yX0_become cX0_become 2 1 24 [.ref (g.2.2.1 k0), .ref (g.2.2.1 a1)] M (fun N => N = M') := by
  refine x_stV RX0 (by decide) rfl (Nat.le_of_ble_eq_true rfl) ?_
  intro p e s m args below meth c Q ls C hw ret hl
  obtain ⟨hx, hb, hml, hown, hB, -⟩ := id C
  have hl : lv_has ls 2 [(0, .ref (g.2.2.1 k0)), (1, .ref (g.2.2.1 a1))] := hl
  unfold fX0_become at hf
  refine lv_aload_n hx hb dX0_become_0 rfl (lv_at hl 0 rfl) ?_
  refine lv_aload_n hx hb dX0_become_1 rfl (lv_at hl 1 rfl) ?_
  refine fg_X0_9 C hw ha1 dX0_become_2 ?_
  refine lv_aload_n hx hb dX0_become_5 rfl (lv_at hl 1 rfl) ?_
  refine fg_X0_15 C hw ha1 dX0_become_6 ?_
  refine lv_aload_n hx hb dX0_become_9 rfl (lv_at hl 1 rfl) ?_
  refine fg_X0_18 C hw ha1 dX0_become_10 ?_
  refine lv_aload_n hx hb dX0_become_13 rfl (lv_at hl 1 rfl) ?_
  refine fg_X0_21 C hw ha1 dX0_become_14 ?_
  obtain ⟨tM_1, c_2, hf⟩ := x_vE hf
  refine x_vV C hw hl.1 [.int (M a1 0), .int (M a1 1), .int (M a1 2), .int (M a1 3)] [] (mX0_begin l g h0 c_2) lk_X0_27 h0 (by decide) rfl (by decide) rfl (Nat.le_of_ble_eq_true rfl) ⟨Nat.zero_le _, Nat.zero_le _⟩ dX0_become_17 (fun M_1 H locs hN hw => ?_)
  obtain rfl := hN
  refine lv_aload_n hx hb dX0_become_20 rfl (lv_at hl 0 rfl) ?_
  refine lv_aload_n hx hb dX0_become_21 rfl (lv_at hl 1 rfl) ?_
  refine fg_X0_24 C hw ha1 dX0_become_22 ?_
  refine fp_X0_24 C hw h0 dX0_become_25 (fun H locs hw => ?_)
  obtain ⟨M_3, eM_3⟩ : ∃ z, z = (x_up M_1 k0 4 (M_1 a1 4)) := ⟨_, rfl⟩
  rw [← eM_3] at hw
  have hf := x_lE eM_3 hf
  exact ret hf dX0_become_28 hw
noncomputable def fX0_isOfKind (M : xM) (k0 : Nat) (a1 : Int32) : Option (Int32 × xM) := x_l (fun (M_2 : xM) => some ((1 : Int32), M_2)) fun k25_1 => if a1 = 0 then (k25_1 M) else (if a1 = (M k0 0) then (k25_1 M) else (x_l (fun (M_6 : xM) => some ((0 : Int32), M_6)) fun k29_5 => if a1 = (2 : Int32) then (if (M k0 0) = (3 : Int32) then (k25_1 M) else (k29_5 M)) else (k29_5 M)))
set_option maxRecDepth 100000 in
set_option maxHeartbeats 4000000 in
theorem mX0_isOfKind (l : Launch) (g : xG) {k0 : Nat} {a1 : Int32} {r : Int32} {M' : xM} (h0 : x_is 0 k0 0) {M : xM} (hf : fX0_isOfKind M k0 a1 = some (r, M')) : x_cI l g 0 yX0_isOfKind cX0_isOfKind 2 .boolean 0 0 [.ref (g.2.2.1 k0), .int a1] M (fun v N => v = r ∧ N = M') := by
  refine x_stZ RX0 (by decide) rfl (Nat.le_of_ble_eq_true rfl) ?_
  intro p e s m args below meth c Q ls C hw ret hl
  obtain ⟨hx, hb, hml, hown, hB, -⟩ := id C
  have hl : lv_has ls 2 [(0, .ref (g.2.2.1 k0)), (1, .int a1)] := hl
  unfold fX0_isOfKind at hf
  refine lv_iload_n hx hb dX0_isOfKind_0 rfl (lv_at hl 1 rfl) ?_
  obtain ⟨k25_1, ek25_1, hf⟩ := x_jE hf
  have hk25_1 : ∀ (H : Heap) (locs : List Loc) (M_2 : xM)  (ls : Array Slot) , lv_has ls 2 [] → x_w g 0 s H locs M_2 → k25_1 M_2 = some (r, M') → W p l e (x_rm 0 0) s m args below meth c H locs 0 0 Q (F0 m 25 ls []) := by
    intro H locs M_2  ls  hl hw hf
    rw [ek25_1] at hf
    refine lv_iconst (v := (1 : Int32)) hx hb dX0_isOfKind_25 (by decide) ?_
    refine lv_goto (tgt := 30) hx hb dX0_isOfKind_26 (by decide) ?_
    exact ret ((x_zl1 _).trans hf) dX0_isOfKind_30 hw
  refine lv_if_eq (tgt := 25) hx hb dX0_isOfKind_1 (by decide) (fun q_3 => ?_) (fun q_3 => ?_)
  · have hf := x_iP hf q_3
    exact hk25_1 _ _ _ _ (lv_sub hl [] rfl) hw hf
  · have hf := x_iN hf q_3
    refine lv_iload_n hx hb dX0_isOfKind_4 rfl (lv_at hl 1 rfl) ?_
    refine lv_aload_n hx hb dX0_isOfKind_5 rfl (lv_at hl 0 rfl) ?_
    refine fg_X0_9 C hw h0 dX0_isOfKind_6 ?_
    refine lv_icmp_eq (tgt := 25) hx hb dX0_isOfKind_9 (by decide) (fun q_4 => ?_) (fun q_4 => ?_)
    · have hf := x_iP hf q_4
      exact hk25_1 _ _ _ _ (lv_sub hl [] rfl) hw hf
    · have hf := x_iN hf q_4
      refine lv_iload_n hx hb dX0_isOfKind_12 rfl (lv_at hl 1 rfl) ?_
      refine lv_iconst (v := (2 : Int32)) hx hb dX0_isOfKind_13 (by decide) ?_
      obtain ⟨k29_5, ek29_5, hf⟩ := x_jE hf
      have hk29_5 : ∀ (H : Heap) (locs : List Loc) (M_6 : xM)  (ls : Array Slot) , lv_has ls 2 [] → x_w g 0 s H locs M_6 → k29_5 M_6 = some (r, M') → W p l e (x_rm 0 0) s m args below meth c H locs 0 0 Q (F0 m 29 ls []) := by
        intro H locs M_6  ls  hl hw hf
        rw [ek29_5] at hf
        refine lv_iconst (v := (0 : Int32)) hx hb dX0_isOfKind_29 (by decide) ?_
        exact ret ((x_zl0 _).trans hf) dX0_isOfKind_30 hw
      refine lv_icmp_ne (tgt := 29) hx hb dX0_isOfKind_14 (by decide) (fun q_7 => ?_) (fun q_7 => ?_)
      · have hf := x_iN hf q_7
        exact hk29_5 _ _ _ _ (lv_sub hl [] rfl) hw hf
      · have hf := x_iP hf q_7
        refine lv_aload_n hx hb dX0_isOfKind_17 rfl (lv_at hl 0 rfl) ?_
        refine fg_X0_9 C hw h0 dX0_isOfKind_18 ?_
        refine lv_iconst (v := (3 : Int32)) hx hb dX0_isOfKind_21 (by decide) ?_
        refine lv_icmp_ne (tgt := 29) hx hb dX0_isOfKind_22 (by decide) (fun q_8 => ?_) (fun q_8 => ?_)
        · have hf := x_iN hf q_8
          exact hk29_5 _ _ _ _ (lv_sub hl [] rfl) hw hf
        · have hf := x_iP hf q_8
          exact hk25_1 _ _ _ _ (lv_sub hl [] rfl) hw hf
noncomputable def fX0_isJudged (M : xM) (k0 : Nat) : Option (Int32 × xM) := if (M k0 4) = (-1 : Int32) then (some ((0 : Int32), M)) else (some ((1 : Int32), M))
set_option maxRecDepth 100000 in
set_option maxHeartbeats 4000000 in
theorem mX0_isJudged (l : Launch) (g : xG) {k0 : Nat} {r : Int32} {M' : xM} (h0 : x_is 0 k0 0) {M : xM} (hf : fX0_isJudged M k0 = some (r, M')) : x_cI l g 0 yX0_isJudged cX0_isJudged 1 .boolean 0 0 [.ref (g.2.2.1 k0)] M (fun v N => v = r ∧ N = M') := by
  refine x_stZ RX0 (by decide) rfl (Nat.le_of_ble_eq_true rfl) ?_
  intro p e s m args below meth c Q ls C hw ret hl
  obtain ⟨hx, hb, hml, hown, hB, -⟩ := id C
  have hl : lv_has ls 1 [(0, .ref (g.2.2.1 k0))] := hl
  unfold fX0_isJudged at hf
  refine lv_aload_n hx hb dX0_isJudged_0 rfl (lv_at hl 0 rfl) ?_
  refine fg_X0_24 C hw h0 dX0_isJudged_1 ?_
  refine lv_iconst (v := (-1 : Int32)) hx hb dX0_isJudged_4 (by decide) ?_
  refine lv_icmp_eq (tgt := 12) hx hb dX0_isJudged_5 (by decide) (fun q_1 => ?_) (fun q_1 => ?_)
  · have hf := x_iP hf q_1
    refine lv_iconst (v := (0 : Int32)) hx hb dX0_isJudged_12 (by decide) ?_
    exact ret ((x_zl0 _).trans hf) dX0_isJudged_13 hw
  · have hf := x_iN hf q_1
    refine lv_iconst (v := (1 : Int32)) hx hb dX0_isJudged_8 (by decide) ?_
    refine lv_goto (tgt := 13) hx hb dX0_isJudged_9 (by decide) ?_
    exact ret ((x_zl1 _).trans hf) dX0_isJudged_13 hw
noncomputable def fX0_isOpenOf (M : xM) (k0 : Nat) (a1 : Int32) : Option (Int32 × xM) := x_l (fun (M_2 : xM) => some ((0 : Int32), M_2)) fun k19_1 => if (M k0 1) = a1 then (x_b (fX0_isJudged M k0) fun v_6 M_4 => if v_6 = 0 then (some ((1 : Int32), M_4)) else (k19_1 M_4)) else (k19_1 M)
set_option maxRecDepth 100000 in
set_option maxHeartbeats 4000000 in
theorem mX0_isOpenOf (l : Launch) (g : xG) {k0 : Nat} {a1 : Int32} {r : Int32} {M' : xM} (h0 : x_is 0 k0 0) {M : xM} (hf : fX0_isOpenOf M k0 a1 = some (r, M')) : x_cI l g 0 yX0_isOpenOf cX0_isOpenOf 2 .boolean 1 20 [.ref (g.2.2.1 k0), .int a1] M (fun v N => v = r ∧ N = M') := by
  refine x_stZ RX0 (by decide) rfl (Nat.le_of_ble_eq_true rfl) ?_
  intro p e s m args below meth c Q ls C hw ret hl
  obtain ⟨hx, hb, hml, hown, hB, -⟩ := id C
  have hl : lv_has ls 2 [(0, .ref (g.2.2.1 k0)), (1, .int a1)] := hl
  unfold fX0_isOpenOf at hf
  refine lv_aload_n hx hb dX0_isOpenOf_0 rfl (lv_at hl 0 rfl) ?_
  refine fg_X0_15 C hw h0 dX0_isOpenOf_1 ?_
  refine lv_iload_n hx hb dX0_isOpenOf_4 rfl (lv_at hl 1 rfl) ?_
  obtain ⟨k19_1, ek19_1, hf⟩ := x_jE hf
  have hk19_1 : ∀ (H : Heap) (locs : List Loc) (M_2 : xM)  (ls : Array Slot) , lv_has ls 2 [] → x_w g 0 s H locs M_2 → k19_1 M_2 = some (r, M') → W p l e (x_rm 1 20) s m args below meth c H locs 0 0 Q (F0 m 19 ls []) := by
    intro H locs M_2  ls  hl hw hf
    rw [ek19_1] at hf
    refine lv_iconst (v := (0 : Int32)) hx hb dX0_isOpenOf_19 (by decide) ?_
    exact ret ((x_zl0 _).trans hf) dX0_isOpenOf_20 hw
  refine lv_icmp_ne (tgt := 19) hx hb dX0_isOpenOf_5 (by decide) (fun q_3 => ?_) (fun q_3 => ?_)
  · have hf := x_iN hf q_3
    exact hk19_1 _ _ _ _ (lv_sub hl [] rfl) hw hf
  · have hf := x_iP hf q_3
    refine lv_aload_n hx hb dX0_isOpenOf_8 rfl (lv_at hl 0 rfl) ?_
    obtain ⟨tv_6, tM_4, c_5, hf⟩ := x_bE hf
    refine x_vI C hw hl.1 [] [] (mX0_isJudged l g h0 c_5) lk_X0_31 h0 (by decide) rfl (by decide) rfl (Nat.le_of_ble_eq_true rfl) ⟨Nat.zero_le _, Nat.zero_le _⟩ dX0_isOpenOf_9 (fun v_6 M_4 H locs hN hw => ?_)
    obtain ⟨rfl, rfl⟩ := hN
    refine lv_if_ne (tgt := 19) hx hb dX0_isOpenOf_12 (by decide) (fun q_7 => ?_) (fun q_7 => ?_)
    · have hf := x_iN hf q_7
      exact hk19_1 _ _ _ _ (lv_sub hl [] rfl) hw hf
    · have hf := x_iP hf q_7
      refine lv_iconst (v := (1 : Int32)) hx hb dX0_isOpenOf_15 (by decide) ?_
      refine lv_goto (tgt := 20) hx hb dX0_isOpenOf_16 (by decide) ?_
      exact ret ((x_zl1 _).trans hf) dX0_isOpenOf_20 hw
noncomputable def fX1_begin (M : xM) (k0 : Nat) (a1 : Int32) (a2 : Int32) (a3 : Int32) (a4 : Int32) (a5 : Int32) : Option (xM) := x_l (x_up M k0 0 a1) fun M_1 => x_l (x_up M_1 k0 1 a2) fun M_2 => x_l (x_up M_2 k0 2 a3) fun M_3 => x_l (x_up M_3 k0 3 a4) fun M_4 => x_l (x_up M_4 k0 4 a5) fun M_5 => some M_5
set_option maxRecDepth 100000 in
set_option maxHeartbeats 4000000 in
theorem mX1_begin (l : Launch) (g : xG) {k0 : Nat} {a1 : Int32} {a2 : Int32} {a3 : Int32} {a4 : Int32} {a5 : Int32} {M' : xM} (h0 : x_is 0 k0 1) {M : xM} (hf : fX1_begin M k0 a1 a2 a3 a4 a5 = some M') : x_cV l g 0 yX1_begin cX1_begin 6 0 0 [.ref (g.2.2.1 k0), .int a1, .int a2, .int a3, .int a4, .int a5] M (fun N => N = M') := by
  refine x_stV RX1 (by decide) rfl (Nat.le_of_ble_eq_true rfl) ?_
  intro p e s m args below meth c Q ls C hw ret hl
  obtain ⟨hx, hb, hml, hown, hB, -⟩ := id C
  have hl : lv_has ls 6 [(0, .ref (g.2.2.1 k0)), (1, .int a1), (2, .int a2), (3, .int a3), (4, .int a4), (5, .int a5)] := hl
  unfold fX1_begin at hf
  refine lv_aload_n hx hb dX1_begin_0 rfl (lv_at hl 0 rfl) ?_
  refine lv_iload_n hx hb dX1_begin_1 rfl (lv_at hl 1 rfl) ?_
  refine fp_X1_7 C hw h0 dX1_begin_2 (fun H locs hw => ?_)
  obtain ⟨M_1, eM_1⟩ : ∃ z, z = (x_up M k0 0 a1) := ⟨_, rfl⟩
  rw [← eM_1] at hw
  have hf := x_lE eM_1 hf
  refine lv_aload_n hx hb dX1_begin_5 rfl (lv_at hl 0 rfl) ?_
  refine lv_iload_n hx hb dX1_begin_6 rfl (lv_at hl 2 rfl) ?_
  refine fp_X1_13 C hw h0 dX1_begin_7 (fun H locs hw => ?_)
  obtain ⟨M_2, eM_2⟩ : ∃ z, z = (x_up M_1 k0 1 a2) := ⟨_, rfl⟩
  rw [← eM_2] at hw
  have hf := x_lE eM_2 hf
  refine lv_aload_n hx hb dX1_begin_10 rfl (lv_at hl 0 rfl) ?_
  refine lv_iload_n hx hb dX1_begin_11 rfl (lv_at hl 3 rfl) ?_
  refine fp_X1_16 C hw h0 dX1_begin_12 (fun H locs hw => ?_)
  obtain ⟨M_3, eM_3⟩ : ∃ z, z = (x_up M_2 k0 2 a3) := ⟨_, rfl⟩
  rw [← eM_3] at hw
  have hf := x_lE eM_3 hf
  refine lv_aload_n hx hb dX1_begin_15 rfl (lv_at hl 0 rfl) ?_
  refine lv_iload hx hb dX1_begin_16 (lv_at hl 4 rfl) ?_
  refine fp_X1_19 C hw h0 dX1_begin_18 (fun H locs hw => ?_)
  obtain ⟨M_4, eM_4⟩ : ∃ z, z = (x_up M_3 k0 3 a4) := ⟨_, rfl⟩
  rw [← eM_4] at hw
  have hf := x_lE eM_4 hf
  refine lv_aload_n hx hb dX1_begin_21 rfl (lv_at hl 0 rfl) ?_
  refine lv_iload hx hb dX1_begin_22 (lv_at hl 5 rfl) ?_
  refine fp_X1_22 C hw h0 dX1_begin_24 (fun H locs hw => ?_)
  obtain ⟨M_5, eM_5⟩ : ∃ z, z = (x_up M_4 k0 4 a5) := ⟨_, rfl⟩
  rw [← eM_5] at hw
  have hf := x_lE eM_5 hf
  exact ret hf dX1_begin_27 hw
noncomputable def fX1_become (M : xM) (k0 : Nat) (a1 : Nat) : Option (xM) := x_v (fX1_begin M k0 (M a1 0) (M a1 1) (M a1 2) (M a1 3) (M a1 4)) fun M_1 => x_l (x_up M_1 k0 5 (M_1 a1 5)) fun M_3 => some M_3
set_option maxRecDepth 100000 in
set_option maxHeartbeats 4000000 in
theorem mX1_become (l : Launch) (g : xG) {k0 : Nat} {a1 : Nat} {M' : xM} (h0 : x_is 0 k0 1) (ha1 : x_is 0 a1 1) {M : xM} (hf : fX1_become M k0 a1 = some M') : x_cV l g 0 yX1_become cX1_become 2 1 25 [.ref (g.2.2.1 k0), .ref (g.2.2.1 a1)] M (fun N => N = M') := by
  refine x_stV RX1 (by decide) rfl (Nat.le_of_ble_eq_true rfl) ?_
  intro p e s m args below meth c Q ls C hw ret hl
  obtain ⟨hx, hb, hml, hown, hB, -⟩ := id C
  have hl : lv_has ls 2 [(0, .ref (g.2.2.1 k0)), (1, .ref (g.2.2.1 a1))] := hl
  unfold fX1_become at hf
  refine lv_aload_n hx hb dX1_become_0 rfl (lv_at hl 0 rfl) ?_
  refine lv_aload_n hx hb dX1_become_1 rfl (lv_at hl 1 rfl) ?_
  refine fg_X1_7 C hw ha1 dX1_become_2 ?_
  refine lv_aload_n hx hb dX1_become_5 rfl (lv_at hl 1 rfl) ?_
  refine fg_X1_13 C hw ha1 dX1_become_6 ?_
  refine lv_aload_n hx hb dX1_become_9 rfl (lv_at hl 1 rfl) ?_
  refine fg_X1_16 C hw ha1 dX1_become_10 ?_
  refine lv_aload_n hx hb dX1_become_13 rfl (lv_at hl 1 rfl) ?_
  refine fg_X1_19 C hw ha1 dX1_become_14 ?_
  refine lv_aload_n hx hb dX1_become_17 rfl (lv_at hl 1 rfl) ?_
  refine fg_X1_22 C hw ha1 dX1_become_18 ?_
  obtain ⟨tM_1, c_2, hf⟩ := x_vE hf
  refine x_vV C hw hl.1 [.int (M a1 0), .int (M a1 1), .int (M a1 2), .int (M a1 3), .int (M a1 4)] [] (mX1_begin l g h0 c_2) lk_X1_28 h0 (by decide) rfl (by decide) rfl (Nat.le_of_ble_eq_true rfl) ⟨Nat.zero_le _, Nat.zero_le _⟩ dX1_become_21 (fun M_1 H locs hN hw => ?_)
  obtain rfl := hN
  refine lv_aload_n hx hb dX1_become_24 rfl (lv_at hl 0 rfl) ?_
  refine lv_aload_n hx hb dX1_become_25 rfl (lv_at hl 1 rfl) ?_
  refine fg_X1_25 C hw ha1 dX1_become_26 ?_
  refine fp_X1_25 C hw h0 dX1_become_29 (fun H locs hw => ?_)
  obtain ⟨M_3, eM_3⟩ : ∃ z, z = (x_up M_1 k0 5 (M_1 a1 5)) := ⟨_, rfl⟩
  rw [← eM_3] at hw
  have hf := x_lE eM_3 hf
  exact ret hf dX1_become_32 hw
noncomputable def fX1_tells (M : xM) (k0 : Nat) (a1 : Int32) (a2 : Int32) (a3 : Int32) (a4 : Int32) : Option (Int32 × xM) := x_l (fun (M_2 : xM) => some ((0 : Int32), M_2)) fun k37_1 => if (M k0 0) = a1 then (if (M k0 1) = a2 then (if a4 < (M k0 5) then (k37_1 M) else (if a3 < (M k0 4) then (k37_1 M) else (some ((1 : Int32), M)))) else (k37_1 M)) else (k37_1 M)
set_option maxRecDepth 100000 in
set_option maxHeartbeats 4000000 in
theorem mX1_tells (l : Launch) (g : xG) {k0 : Nat} {a1 : Int32} {a2 : Int32} {a3 : Int32} {a4 : Int32} {r : Int32} {M' : xM} (h0 : x_is 0 k0 1) {M : xM} (hf : fX1_tells M k0 a1 a2 a3 a4 = some (r, M')) : x_cI l g 0 yX1_tells cX1_tells 5 .boolean 0 0 [.ref (g.2.2.1 k0), .int a1, .int a2, .int a3, .int a4] M (fun v N => v = r ∧ N = M') := by
  refine x_stZ RX1 (by decide) rfl (Nat.le_of_ble_eq_true rfl) ?_
  intro p e s m args below meth c Q ls C hw ret hl
  obtain ⟨hx, hb, hml, hown, hB, -⟩ := id C
  have hl : lv_has ls 5 [(0, .ref (g.2.2.1 k0)), (1, .int a1), (2, .int a2), (3, .int a3), (4, .int a4)] := hl
  unfold fX1_tells at hf
  refine lv_aload_n hx hb dX1_tells_0 rfl (lv_at hl 0 rfl) ?_
  refine fg_X1_7 C hw h0 dX1_tells_1 ?_
  refine lv_iload_n hx hb dX1_tells_4 rfl (lv_at hl 1 rfl) ?_
  obtain ⟨k37_1, ek37_1, hf⟩ := x_jE hf
  have hk37_1 : ∀ (H : Heap) (locs : List Loc) (M_2 : xM)  (ls : Array Slot) , lv_has ls 5 [] → x_w g 0 s H locs M_2 → k37_1 M_2 = some (r, M') → W p l e (x_rm 0 0) s m args below meth c H locs 0 0 Q (F0 m 37 ls []) := by
    intro H locs M_2  ls  hl hw hf
    rw [ek37_1] at hf
    refine lv_iconst (v := (0 : Int32)) hx hb dX1_tells_37 (by decide) ?_
    exact ret ((x_zl0 _).trans hf) dX1_tells_38 hw
  refine lv_icmp_ne (tgt := 37) hx hb dX1_tells_5 (by decide) (fun q_3 => ?_) (fun q_3 => ?_)
  · have hf := x_iN hf q_3
    exact hk37_1 _ _ _ _ (lv_sub hl [] rfl) hw hf
  · have hf := x_iP hf q_3
    refine lv_aload_n hx hb dX1_tells_8 rfl (lv_at hl 0 rfl) ?_
    refine fg_X1_13 C hw h0 dX1_tells_9 ?_
    refine lv_iload_n hx hb dX1_tells_12 rfl (lv_at hl 2 rfl) ?_
    refine lv_icmp_ne (tgt := 37) hx hb dX1_tells_13 (by decide) (fun q_4 => ?_) (fun q_4 => ?_)
    · have hf := x_iN hf q_4
      exact hk37_1 _ _ _ _ (lv_sub hl [] rfl) hw hf
    · have hf := x_iP hf q_4
      refine lv_aload_n hx hb dX1_tells_16 rfl (lv_at hl 0 rfl) ?_
      refine fg_X1_25 C hw h0 dX1_tells_17 ?_
      refine lv_iload hx hb dX1_tells_20 (lv_at hl 4 rfl) ?_
      refine lv_icmp_gt (tgt := 37) hx hb dX1_tells_22 (by decide) (fun q_5 => ?_) (fun q_5 => ?_)
      · have hf := x_iP hf q_5
        exact hk37_1 _ _ _ _ (lv_sub hl [] rfl) hw hf
      · have hf := x_iN hf q_5
        refine lv_aload_n hx hb dX1_tells_25 rfl (lv_at hl 0 rfl) ?_
        refine fg_X1_22 C hw h0 dX1_tells_26 ?_
        refine lv_iload_n hx hb dX1_tells_29 rfl (lv_at hl 3 rfl) ?_
        refine lv_icmp_gt (tgt := 37) hx hb dX1_tells_30 (by decide) (fun q_6 => ?_) (fun q_6 => ?_)
        · have hf := x_iP hf q_6
          exact hk37_1 _ _ _ _ (lv_sub hl [] rfl) hw hf
        · have hf := x_iN hf q_6
          refine lv_iconst (v := (1 : Int32)) hx hb dX1_tells_33 (by decide) ?_
          refine lv_goto (tgt := 38) hx hb dX1_tells_34 (by decide) ?_
          exact ret ((x_zl1 _).trans hf) dX1_tells_38 hw
noncomputable def fX1_outdoes (M : xM) (k0 : Nat) (a1 : Nat) : Option (Int32 × xM) := if (M k0 2) = (M a1 2) then (if (M k0 4) < (M a1 4) then (some ((0 : Int32), M)) else (some ((1 : Int32), M))) else (if (M k0 2) ≤ (M a1 2) then (some ((0 : Int32), M)) else (some ((1 : Int32), M)))
set_option maxRecDepth 100000 in
set_option maxHeartbeats 4000000 in
theorem mX1_outdoes (l : Launch) (g : xG) {k0 : Nat} {a1 : Nat} {r : Int32} {M' : xM} (h0 : x_is 0 k0 1) (ha1 : x_is 0 a1 1) {M : xM} (hf : fX1_outdoes M k0 a1 = some (r, M')) : x_cI l g 0 yX1_outdoes cX1_outdoes 2 .boolean 0 0 [.ref (g.2.2.1 k0), .ref (g.2.2.1 a1)] M (fun v N => v = r ∧ N = M') := by
  refine x_stZ RX1 (by decide) rfl (Nat.le_of_ble_eq_true rfl) ?_
  intro p e s m args below meth c Q ls C hw ret hl
  obtain ⟨hx, hb, hml, hown, hB, -⟩ := id C
  have hl : lv_has ls 2 [(0, .ref (g.2.2.1 k0)), (1, .ref (g.2.2.1 a1))] := hl
  unfold fX1_outdoes at hf
  refine lv_aload_n hx hb dX1_outdoes_0 rfl (lv_at hl 0 rfl) ?_
  refine fg_X1_16 C hw h0 dX1_outdoes_1 ?_
  refine lv_aload_n hx hb dX1_outdoes_4 rfl (lv_at hl 1 rfl) ?_
  refine fg_X1_16 C hw ha1 dX1_outdoes_5 ?_
  refine lv_icmp_ne (tgt := 30) hx hb dX1_outdoes_8 (by decide) (fun q_1 => ?_) (fun q_1 => ?_)
  · have hf := x_iN hf q_1
    refine lv_aload_n hx hb dX1_outdoes_30 rfl (lv_at hl 0 rfl) ?_
    refine fg_X1_16 C hw h0 dX1_outdoes_31 ?_
    refine lv_aload_n hx hb dX1_outdoes_34 rfl (lv_at hl 1 rfl) ?_
    refine fg_X1_16 C hw ha1 dX1_outdoes_35 ?_
    refine lv_icmp_le (tgt := 45) hx hb dX1_outdoes_38 (by decide) (fun q_2 => ?_) (fun q_2 => ?_)
    · have hf := x_iP hf q_2
      refine lv_iconst (v := (0 : Int32)) hx hb dX1_outdoes_45 (by decide) ?_
      exact ret ((x_zl0 _).trans hf) dX1_outdoes_46 hw
    · have hf := x_iN hf q_2
      refine lv_iconst (v := (1 : Int32)) hx hb dX1_outdoes_41 (by decide) ?_
      refine lv_goto (tgt := 46) hx hb dX1_outdoes_42 (by decide) ?_
      exact ret ((x_zl1 _).trans hf) dX1_outdoes_46 hw
  · have hf := x_iP hf q_1
    refine lv_aload_n hx hb dX1_outdoes_11 rfl (lv_at hl 0 rfl) ?_
    refine fg_X1_22 C hw h0 dX1_outdoes_12 ?_
    refine lv_aload_n hx hb dX1_outdoes_15 rfl (lv_at hl 1 rfl) ?_
    refine fg_X1_22 C hw ha1 dX1_outdoes_16 ?_
    refine lv_icmp_lt (tgt := 26) hx hb dX1_outdoes_19 (by decide) (fun q_3 => ?_) (fun q_3 => ?_)
    · have hf := x_iP hf q_3
      refine lv_iconst (v := (0 : Int32)) hx hb dX1_outdoes_26 (by decide) ?_
      refine lv_goto (tgt := 46) hx hb dX1_outdoes_27 (by decide) ?_
      exact ret ((x_zl0 _).trans hf) dX1_outdoes_46 hw
    · have hf := x_iN hf q_3
      refine lv_iconst (v := (1 : Int32)) hx hb dX1_outdoes_22 (by decide) ?_
      refine lv_goto (tgt := 46) hx hb dX1_outdoes_23 (by decide) ?_
      exact ret ((x_zl1 _).trans hf) dX1_outdoes_46 hw
noncomputable def fX2_begin (M : xM) (k0 : Nat) (a1 : Int32) (a2 : Int32) : Option (xM) := x_l (x_up M k0 0 a1) fun M_1 => x_l (x_up M_1 k0 1 a2) fun M_2 => x_l (x_up M_2 k0 2 (0 : Int32)) fun M_3 => x_l (x_up M_3 k0 3 (0 : Int32)) fun M_4 => x_l (x_up M_4 k0 4 (0 : Int32)) fun M_5 => x_l (x_up M_5 k0 5 (0 : Int32)) fun M_6 => x_l (x_up M_6 k0 6 a2) fun M_7 => x_l (x_up M_7 k0 7 (0 : Int32)) fun M_8 => x_l (x_up M_8 k0 8 (0 : Int32)) fun M_9 => x_l (x_up M_9 k0 9 (0 : Int32)) fun M_10 => some M_10
set_option maxRecDepth 100000 in
set_option maxHeartbeats 4000000 in
theorem mX2_begin (l : Launch) (g : xG) {k0 : Nat} {a1 : Int32} {a2 : Int32} {M' : xM} (h0 : x_is 0 k0 2) {M : xM} (hf : fX2_begin M k0 a1 a2 = some M') : x_cV l g 0 yX2_begin cX2_begin 3 0 0 [.ref (g.2.2.1 k0), .int a1, .int a2] M (fun N => N = M') := by
  refine x_stV RX2 (by decide) rfl (Nat.le_of_ble_eq_true rfl) ?_
  intro p e s m args below meth c Q ls C hw ret hl
  obtain ⟨hx, hb, hml, hown, hB, -⟩ := id C
  have hl : lv_has ls 3 [(0, .ref (g.2.2.1 k0)), (1, .int a1), (2, .int a2)] := hl
  unfold fX2_begin at hf
  refine lv_aload_n hx hb dX2_begin_0 rfl (lv_at hl 0 rfl) ?_
  refine lv_iload_n hx hb dX2_begin_1 rfl (lv_at hl 1 rfl) ?_
  refine fp_X2_7 C hw h0 dX2_begin_2 (fun H locs hw => ?_)
  obtain ⟨M_1, eM_1⟩ : ∃ z, z = (x_up M k0 0 a1) := ⟨_, rfl⟩
  rw [← eM_1] at hw
  have hf := x_lE eM_1 hf
  refine lv_aload_n hx hb dX2_begin_5 rfl (lv_at hl 0 rfl) ?_
  refine lv_iload_n hx hb dX2_begin_6 rfl (lv_at hl 2 rfl) ?_
  refine fp_X2_13 C hw h0 dX2_begin_7 (fun H locs hw => ?_)
  obtain ⟨M_2, eM_2⟩ : ∃ z, z = (x_up M_1 k0 1 a2) := ⟨_, rfl⟩
  rw [← eM_2] at hw
  have hf := x_lE eM_2 hf
  refine lv_aload_n hx hb dX2_begin_10 rfl (lv_at hl 0 rfl) ?_
  refine lv_iconst (v := (0 : Int32)) hx hb dX2_begin_11 (by decide) ?_
  refine fp_X2_16 C hw h0 dX2_begin_12 (fun H locs hw => ?_)
  obtain ⟨M_3, eM_3⟩ : ∃ z, z = (x_up M_2 k0 2 (0 : Int32)) := ⟨_, rfl⟩
  rw [← eM_3] at hw
  have hf := x_lE eM_3 hf
  refine lv_aload_n hx hb dX2_begin_15 rfl (lv_at hl 0 rfl) ?_
  refine lv_iconst (v := (0 : Int32)) hx hb dX2_begin_16 (by decide) ?_
  refine fp_X2_19 C hw h0 dX2_begin_17 (fun H locs hw => ?_)
  obtain ⟨M_4, eM_4⟩ : ∃ z, z = (x_up M_3 k0 3 (0 : Int32)) := ⟨_, rfl⟩
  rw [← eM_4] at hw
  have hf := x_lE eM_4 hf
  refine lv_aload_n hx hb dX2_begin_20 rfl (lv_at hl 0 rfl) ?_
  refine lv_iconst (v := (0 : Int32)) hx hb dX2_begin_21 (by decide) ?_
  refine fp_X2_22 C hw h0 dX2_begin_22 (fun H locs hw => ?_)
  obtain ⟨M_5, eM_5⟩ : ∃ z, z = (x_up M_4 k0 4 (0 : Int32)) := ⟨_, rfl⟩
  rw [← eM_5] at hw
  have hf := x_lE eM_5 hf
  refine lv_aload_n hx hb dX2_begin_25 rfl (lv_at hl 0 rfl) ?_
  refine lv_iconst (v := (0 : Int32)) hx hb dX2_begin_26 (by decide) ?_
  refine fp_X2_25 C hw h0 dX2_begin_27 (fun H locs hw => ?_)
  obtain ⟨M_6, eM_6⟩ : ∃ z, z = (x_up M_5 k0 5 (0 : Int32)) := ⟨_, rfl⟩
  rw [← eM_6] at hw
  have hf := x_lE eM_6 hf
  refine lv_aload_n hx hb dX2_begin_30 rfl (lv_at hl 0 rfl) ?_
  refine lv_iload_n hx hb dX2_begin_31 rfl (lv_at hl 2 rfl) ?_
  refine fp_X2_28 C hw h0 dX2_begin_32 (fun H locs hw => ?_)
  obtain ⟨M_7, eM_7⟩ : ∃ z, z = (x_up M_6 k0 6 a2) := ⟨_, rfl⟩
  rw [← eM_7] at hw
  have hf := x_lE eM_7 hf
  refine lv_aload_n hx hb dX2_begin_35 rfl (lv_at hl 0 rfl) ?_
  refine lv_iconst (v := (0 : Int32)) hx hb dX2_begin_36 (by decide) ?_
  refine fp_X2_31 C hw h0 dX2_begin_37 (fun H locs hw => ?_)
  obtain ⟨M_8, eM_8⟩ : ∃ z, z = (x_up M_7 k0 7 (0 : Int32)) := ⟨_, rfl⟩
  rw [← eM_8] at hw
  have hf := x_lE eM_8 hf
  refine lv_aload_n hx hb dX2_begin_40 rfl (lv_at hl 0 rfl) ?_
  refine lv_iconst (v := (0 : Int32)) hx hb dX2_begin_41 (by decide) ?_
  refine fp_X2_34 C hw (⟨rfl, rfl⟩ : _ ∧ _) h0 dX2_begin_42 (fun H locs hw => ?_)
  obtain ⟨M_9, eM_9⟩ : ∃ z, z = (x_up M_8 k0 8 (0 : Int32)) := ⟨_, rfl⟩
  rw [← eM_9] at hw
  have hf := x_lE eM_9 hf
  refine lv_aload_n hx hb dX2_begin_45 rfl (lv_at hl 0 rfl) ?_
  refine lv_iconst (v := (0 : Int32)) hx hb dX2_begin_46 (by decide) ?_
  refine fp_X2_38 C hw (⟨rfl, rfl⟩ : _ ∧ _) h0 dX2_begin_47 (fun H locs hw => ?_)
  obtain ⟨M_10, eM_10⟩ : ∃ z, z = (x_up M_9 k0 9 (0 : Int32)) := ⟨_, rfl⟩
  rw [← eM_10] at hw
  have hf := x_lE eM_10 hf
  exact ret hf dX2_begin_50 hw
noncomputable def fX2_become (M : xM) (k0 : Nat) (a1 : Nat) : Option (xM) := x_l (x_up M k0 0 (M a1 0)) fun M_1 => x_l (x_up M_1 k0 1 (M_1 a1 1)) fun M_2 => x_l (x_up M_2 k0 2 (M_2 a1 2)) fun M_3 => x_l (x_up M_3 k0 3 (M_3 a1 3)) fun M_4 => x_l (x_up M_4 k0 4 (M_4 a1 4)) fun M_5 => x_l (x_up M_5 k0 5 (M_5 a1 5)) fun M_6 => x_l (x_up M_6 k0 6 (M_6 a1 6)) fun M_7 => x_l (x_up M_7 k0 7 (M_7 a1 7)) fun M_8 => x_z (M_8 a1 8) (x_l (x_up M_8 k0 8 (M_8 a1 8)) fun M_9 => x_z (M_9 a1 9) (x_l (x_up M_9 k0 9 (M_9 a1 9)) fun M_11 => some M_11))
set_option maxRecDepth 100000 in
set_option maxHeartbeats 4000000 in
theorem mX2_become (l : Launch) (g : xG) {k0 : Nat} {a1 : Nat} {M' : xM} (h0 : x_is 0 k0 2) (ha1 : x_is 0 a1 2) {M : xM} (hf : fX2_become M k0 a1 = some M') : x_cV l g 0 yX2_become cX2_become 2 0 0 [.ref (g.2.2.1 k0), .ref (g.2.2.1 a1)] M (fun N => N = M') := by
  refine x_stV RX2 (by decide) rfl (Nat.le_of_ble_eq_true rfl) ?_
  intro p e s m args below meth c Q ls C hw ret hl
  obtain ⟨hx, hb, hml, hown, hB, -⟩ := id C
  have hl : lv_has ls 2 [(0, .ref (g.2.2.1 k0)), (1, .ref (g.2.2.1 a1))] := hl
  unfold fX2_become at hf
  refine lv_aload_n hx hb dX2_become_0 rfl (lv_at hl 0 rfl) ?_
  refine lv_aload_n hx hb dX2_become_1 rfl (lv_at hl 1 rfl) ?_
  refine fg_X2_7 C hw ha1 dX2_become_2 ?_
  refine fp_X2_7 C hw h0 dX2_become_5 (fun H locs hw => ?_)
  obtain ⟨M_1, eM_1⟩ : ∃ z, z = (x_up M k0 0 (M a1 0)) := ⟨_, rfl⟩
  rw [← eM_1] at hw
  have hf := x_lE eM_1 hf
  refine lv_aload_n hx hb dX2_become_8 rfl (lv_at hl 0 rfl) ?_
  refine lv_aload_n hx hb dX2_become_9 rfl (lv_at hl 1 rfl) ?_
  refine fg_X2_13 C hw ha1 dX2_become_10 ?_
  refine fp_X2_13 C hw h0 dX2_become_13 (fun H locs hw => ?_)
  obtain ⟨M_2, eM_2⟩ : ∃ z, z = (x_up M_1 k0 1 (M_1 a1 1)) := ⟨_, rfl⟩
  rw [← eM_2] at hw
  have hf := x_lE eM_2 hf
  refine lv_aload_n hx hb dX2_become_16 rfl (lv_at hl 0 rfl) ?_
  refine lv_aload_n hx hb dX2_become_17 rfl (lv_at hl 1 rfl) ?_
  refine fg_X2_16 C hw ha1 dX2_become_18 ?_
  refine fp_X2_16 C hw h0 dX2_become_21 (fun H locs hw => ?_)
  obtain ⟨M_3, eM_3⟩ : ∃ z, z = (x_up M_2 k0 2 (M_2 a1 2)) := ⟨_, rfl⟩
  rw [← eM_3] at hw
  have hf := x_lE eM_3 hf
  refine lv_aload_n hx hb dX2_become_24 rfl (lv_at hl 0 rfl) ?_
  refine lv_aload_n hx hb dX2_become_25 rfl (lv_at hl 1 rfl) ?_
  refine fg_X2_19 C hw ha1 dX2_become_26 ?_
  refine fp_X2_19 C hw h0 dX2_become_29 (fun H locs hw => ?_)
  obtain ⟨M_4, eM_4⟩ : ∃ z, z = (x_up M_3 k0 3 (M_3 a1 3)) := ⟨_, rfl⟩
  rw [← eM_4] at hw
  have hf := x_lE eM_4 hf
  refine lv_aload_n hx hb dX2_become_32 rfl (lv_at hl 0 rfl) ?_
  refine lv_aload_n hx hb dX2_become_33 rfl (lv_at hl 1 rfl) ?_
  refine fg_X2_22 C hw ha1 dX2_become_34 ?_
  refine fp_X2_22 C hw h0 dX2_become_37 (fun H locs hw => ?_)
  obtain ⟨M_5, eM_5⟩ : ∃ z, z = (x_up M_4 k0 4 (M_4 a1 4)) := ⟨_, rfl⟩
  rw [← eM_5] at hw
  have hf := x_lE eM_5 hf
  refine lv_aload_n hx hb dX2_become_40 rfl (lv_at hl 0 rfl) ?_
  refine lv_aload_n hx hb dX2_become_41 rfl (lv_at hl 1 rfl) ?_
  refine fg_X2_25 C hw ha1 dX2_become_42 ?_
  refine fp_X2_25 C hw h0 dX2_become_45 (fun H locs hw => ?_)
  obtain ⟨M_6, eM_6⟩ : ∃ z, z = (x_up M_5 k0 5 (M_5 a1 5)) := ⟨_, rfl⟩
  rw [← eM_6] at hw
  have hf := x_lE eM_6 hf
  refine lv_aload_n hx hb dX2_become_48 rfl (lv_at hl 0 rfl) ?_
  refine lv_aload_n hx hb dX2_become_49 rfl (lv_at hl 1 rfl) ?_
  refine fg_X2_28 C hw ha1 dX2_become_50 ?_
  refine fp_X2_28 C hw h0 dX2_become_53 (fun H locs hw => ?_)
  obtain ⟨M_7, eM_7⟩ : ∃ z, z = (x_up M_6 k0 6 (M_6 a1 6)) := ⟨_, rfl⟩
  rw [← eM_7] at hw
  have hf := x_lE eM_7 hf
  refine lv_aload_n hx hb dX2_become_56 rfl (lv_at hl 0 rfl) ?_
  refine lv_aload_n hx hb dX2_become_57 rfl (lv_at hl 1 rfl) ?_
  refine fg_X2_31 C hw ha1 dX2_become_58 ?_
  refine fp_X2_31 C hw h0 dX2_become_61 (fun H locs hw => ?_)
  obtain ⟨M_8, eM_8⟩ : ∃ z, z = (x_up M_7 k0 7 (M_7 a1 7)) := ⟨_, rfl⟩
  rw [← eM_8] at hw
  have hf := x_lE eM_8 hf
  refine lv_aload_n hx hb dX2_become_64 rfl (lv_at hl 0 rfl) ?_
  refine lv_aload_n hx hb dX2_become_65 rfl (lv_at hl 1 rfl) ?_
  refine fg_X2_34 C hw ha1 dX2_become_66 ?_
  obtain ⟨q_10, hf⟩ := x_zE hf
  refine fp_X2_34 C hw q_10 h0 dX2_become_69 (fun H locs hw => ?_)
  obtain ⟨M_9, eM_9⟩ : ∃ z, z = (x_up M_8 k0 8 (M_8 a1 8)) := ⟨_, rfl⟩
  rw [← eM_9] at hw
  have hf := x_lE eM_9 hf
  refine lv_aload_n hx hb dX2_become_72 rfl (lv_at hl 0 rfl) ?_
  refine lv_aload_n hx hb dX2_become_73 rfl (lv_at hl 1 rfl) ?_
  refine fg_X2_38 C hw ha1 dX2_become_74 ?_
  obtain ⟨q_12, hf⟩ := x_zE hf
  refine fp_X2_38 C hw q_12 h0 dX2_become_77 (fun H locs hw => ?_)
  obtain ⟨M_11, eM_11⟩ : ∃ z, z = (x_up M_9 k0 9 (M_9 a1 9)) := ⟨_, rfl⟩
  rw [← eM_11] at hw
  have hf := x_lE eM_11 hf
  exact ret hf dX2_become_80 hw
noncomputable def fX2_fine (M : xM) (k0 : Nat) : Option (Int32 × xM) := some (((M k0 2) * (M k0 3)), M)
set_option maxRecDepth 100000 in
set_option maxHeartbeats 4000000 in
theorem mX2_fine (l : Launch) (g : xG) {k0 : Nat} {r : Int32} {M' : xM} (h0 : x_is 0 k0 2) {M : xM} (hf : fX2_fine M k0 = some (r, M')) : x_cI l g 0 yX2_fine cX2_fine 1 .int 0 0 [.ref (g.2.2.1 k0)] M (fun v N => v = r ∧ N = M') := by
  refine x_stI RX2 (by decide) rfl (Nat.le_of_ble_eq_true rfl) ?_
  intro p e s m args below meth c Q ls C hw ret hl
  obtain ⟨hx, hb, hml, hown, hB, -⟩ := id C
  have hl : lv_has ls 1 [(0, .ref (g.2.2.1 k0))] := hl
  unfold fX2_fine at hf
  refine lv_aload_n hx hb dX2_fine_0 rfl (lv_at hl 0 rfl) ?_
  refine fg_X2_16 C hw h0 dX2_fine_1 ?_
  refine lv_aload_n hx hb dX2_fine_4 rfl (lv_at hl 0 rfl) ?_
  refine fg_X2_19 C hw h0 dX2_fine_5 ?_
  refine lv_imul hx hb dX2_fine_8 ?_
  exact ret hf dX2_fine_9 hw
noncomputable def fX2_unpaidCoins (M : xM) (k0 : Nat) : Option (Int32 × xM) := x_b (fX2_fine M k0) fun v_3 M_1 => some ((if (0 : Int32) < (v_3 - (M_1 k0 4)) then (v_3 - (M_1 k0 4)) else (0 : Int32)), M_1)
set_option maxRecDepth 100000 in
set_option maxHeartbeats 4000000 in
theorem mX2_unpaidCoins (l : Launch) (g : xG) {k0 : Nat} {r : Int32} {M' : xM} (h0 : x_is 0 k0 2) {M : xM} (hf : fX2_unpaidCoins M k0 = some (r, M')) : x_cI l g 0 yX2_unpaidCoins cX2_unpaidCoins 1 .int 1 23 [.ref (g.2.2.1 k0)] M (fun v N => v = r ∧ N = M') := by
  refine x_stI RX2 (by decide) rfl (Nat.le_of_ble_eq_true rfl) ?_
  intro p e s m args below meth c Q ls C hw ret hl
  obtain ⟨hx, hb, hml, hown, hB, -⟩ := id C
  have hl : lv_has ls 1 [(0, .ref (g.2.2.1 k0))] := hl
  unfold fX2_unpaidCoins at hf
  refine lv_iconst (v := (0 : Int32)) hx hb dX2_unpaidCoins_0 (by decide) ?_
  refine lv_aload_n hx hb dX2_unpaidCoins_1 rfl (lv_at hl 0 rfl) ?_
  obtain ⟨tv_3, tM_1, c_2, hf⟩ := x_bE hf
  refine x_vI C hw hl.1 [] [.int (0 : Int32)] (mX2_fine l g h0 c_2) lk_X2_41 h0 (by decide) rfl (by decide) rfl (Nat.le_of_ble_eq_true rfl) ⟨Nat.zero_le _, Nat.zero_le _⟩ dX2_unpaidCoins_2 (fun v_3 M_1 H locs hN hw => ?_)
  obtain ⟨rfl, rfl⟩ := hN
  refine lv_aload_n hx hb dX2_unpaidCoins_5 rfl (lv_at hl 0 rfl) ?_
  refine fg_X2_22 C hw h0 dX2_unpaidCoins_6 ?_
  refine lv_isub hx hb dX2_unpaidCoins_9 ?_
  refine mm_X2_45 C hl.1 (Nat.le_of_ble_eq_true rfl) (Nat.le_of_ble_eq_true rfl) ⟨Nat.zero_le _, Nat.zero_le _⟩ dX2_unpaidCoins_10 ?_
  exact ret hf dX2_unpaidCoins_13 hw
noncomputable def fX2_unpaidDays (M : xM) (k0 : Nat) : Option (Int32 × xM) := if (M k0 3) = 0 then (some ((0 : Int32), M)) else (x_b (fX2_unpaidCoins M k0) fun v_4 M_2 => x_d (M_2 k0 3) (some ((((v_4 + (M_2 k0 3)) - (1 : Int32)) / (M_2 k0 3)), M_2)))
set_option maxRecDepth 100000 in
set_option maxHeartbeats 4000000 in
theorem mX2_unpaidDays (l : Launch) (g : xG) {k0 : Nat} {r : Int32} {M' : xM} (h0 : x_is 0 k0 2) {M : xM} (hf : fX2_unpaidDays M k0 = some (r, M')) : x_cI l g 0 yX2_unpaidDays cX2_unpaidDays 1 .int 2 43 [.ref (g.2.2.1 k0)] M (fun v N => v = r ∧ N = M') := by
  refine x_stI RX2 (by decide) rfl (Nat.le_of_ble_eq_true rfl) ?_
  intro p e s m args below meth c Q ls C hw ret hl
  obtain ⟨hx, hb, hml, hown, hB, -⟩ := id C
  have hl : lv_has ls 1 [(0, .ref (g.2.2.1 k0))] := hl
  unfold fX2_unpaidDays at hf
  refine lv_aload_n hx hb dX2_unpaidDays_0 rfl (lv_at hl 0 rfl) ?_
  refine fg_X2_19 C hw h0 dX2_unpaidDays_1 ?_
  refine lv_if_ne (tgt := 11) hx hb dX2_unpaidDays_4 (by decide) (fun q_1 => ?_) (fun q_1 => ?_)
  · have hf := x_iN hf q_1
    refine lv_aload_n hx hb dX2_unpaidDays_11 rfl (lv_at hl 0 rfl) ?_
    obtain ⟨tv_4, tM_2, c_3, hf⟩ := x_bE hf
    refine x_vI C hw hl.1 [] [] (mX2_unpaidCoins l g h0 c_3) lk_X2_51 h0 (by decide) rfl (by decide) rfl (Nat.le_of_ble_eq_true rfl) ⟨Nat.zero_le _, Nat.zero_le _⟩ dX2_unpaidDays_12 (fun v_4 M_2 H locs hN hw => ?_)
    obtain ⟨rfl, rfl⟩ := hN
    refine lv_aload_n hx hb dX2_unpaidDays_15 rfl (lv_at hl 0 rfl) ?_
    refine fg_X2_19 C hw h0 dX2_unpaidDays_16 ?_
    refine lv_iadd hx hb dX2_unpaidDays_19 ?_
    refine lv_iconst (v := (1 : Int32)) hx hb dX2_unpaidDays_20 (by decide) ?_
    refine lv_isub hx hb dX2_unpaidDays_21 ?_
    refine lv_aload_n hx hb dX2_unpaidDays_22 rfl (lv_at hl 0 rfl) ?_
    refine fg_X2_19 C hw h0 dX2_unpaidDays_23 ?_
    obtain ⟨q_5, hf⟩ := x_dE hf
    refine lv_idiv hx hb dX2_unpaidDays_26 q_5 ?_
    exact ret hf dX2_unpaidDays_27 hw
  · have hf := x_iP hf q_1
    refine lv_iconst (v := (0 : Int32)) hx hb dX2_unpaidDays_7 (by decide) ?_
    refine lv_goto (tgt := 27) hx hb dX2_unpaidDays_8 (by decide) ?_
    exact ret hf dX2_unpaidDays_27 hw
noncomputable def fX2_appealDays (M : xM) (k0 : Nat) (a1 : Int32) : Option (Int32 × xM) := x_l (M k0 2) fun x2_1 => x_l (x_up M k0 2 a1) fun M_2 => x_l (x_up M_2 k0 8 (1 : Int32)) fun M_3 => some (x2_1, M_3)
set_option maxRecDepth 100000 in
set_option maxHeartbeats 4000000 in
theorem mX2_appealDays (l : Launch) (g : xG) {k0 : Nat} {a1 : Int32} {r : Int32} {M' : xM} (h0 : x_is 0 k0 2) {M : xM} (hf : fX2_appealDays M k0 a1 = some (r, M')) : x_cI l g 0 yX2_appealDays cX2_appealDays 3 .int 0 0 [.ref (g.2.2.1 k0), .int a1] M (fun v N => v = r ∧ N = M') := by
  refine x_stI RX2 (by decide) rfl (Nat.le_of_ble_eq_true rfl) ?_
  intro p e s m args below meth c Q ls C hw ret hl
  obtain ⟨hx, hb, hml, hown, hB, -⟩ := id C
  have hl : lv_has ls 3 [(0, .ref (g.2.2.1 k0)), (1, .int a1)] := hl
  unfold fX2_appealDays at hf
  refine lv_aload_n hx hb dX2_appealDays_0 rfl (lv_at hl 0 rfl) ?_
  refine fg_X2_16 C hw h0 dX2_appealDays_1 ?_
  refine lv_topi (fun x2_1 ex2_1 => ?_)
  have hf := x_lE ex2_1 hf
  refine lv_istore_n (lv' := [(2, .int x2_1), (0, .ref (g.2.2.1 k0)), (1, .int a1)]) hx hb dX2_appealDays_4 rfl hl (by decide) rfl (fun ls hl => ?_)
  refine lv_aload_n hx hb dX2_appealDays_5 rfl (lv_at hl 1 rfl) ?_
  refine lv_iload_n hx hb dX2_appealDays_6 rfl (lv_at hl 2 rfl) ?_
  refine fp_X2_16 C hw h0 dX2_appealDays_7 (fun H locs hw => ?_)
  obtain ⟨M_2, eM_2⟩ : ∃ z, z = (x_up M k0 2 a1) := ⟨_, rfl⟩
  rw [← eM_2] at hw
  have hf := x_lE eM_2 hf
  refine lv_aload_n hx hb dX2_appealDays_10 rfl (lv_at hl 1 rfl) ?_
  refine lv_iconst (v := (1 : Int32)) hx hb dX2_appealDays_11 (by decide) ?_
  refine fp_X2_34 C hw (⟨rfl, rfl⟩ : _ ∧ _) h0 dX2_appealDays_12 (fun H locs hw => ?_)
  obtain ⟨M_3, eM_3⟩ : ∃ z, z = (x_up M_2 k0 8 (1 : Int32)) := ⟨_, rfl⟩
  rw [← eM_3] at hw
  have hf := x_lE eM_3 hf
  refine lv_iload_n hx hb dX2_appealDays_15 rfl (lv_at hl 0 rfl) ?_
  exact ret hf dX2_appealDays_16 hw
noncomputable def fX2_appealSum (M : xM) (k0 : Nat) (a1 : Int32) : Option (Int32 × xM) := x_l (M k0 3) fun x2_1 => x_l (x_up M k0 3 a1) fun M_2 => x_l (x_up M_2 k0 9 (1 : Int32)) fun M_3 => some (x2_1, M_3)
set_option maxRecDepth 100000 in
set_option maxHeartbeats 4000000 in
theorem mX2_appealSum (l : Launch) (g : xG) {k0 : Nat} {a1 : Int32} {r : Int32} {M' : xM} (h0 : x_is 0 k0 2) {M : xM} (hf : fX2_appealSum M k0 a1 = some (r, M')) : x_cI l g 0 yX2_appealSum cX2_appealSum 3 .int 0 0 [.ref (g.2.2.1 k0), .int a1] M (fun v N => v = r ∧ N = M') := by
  refine x_stI RX2 (by decide) rfl (Nat.le_of_ble_eq_true rfl) ?_
  intro p e s m args below meth c Q ls C hw ret hl
  obtain ⟨hx, hb, hml, hown, hB, -⟩ := id C
  have hl : lv_has ls 3 [(0, .ref (g.2.2.1 k0)), (1, .int a1)] := hl
  unfold fX2_appealSum at hf
  refine lv_aload_n hx hb dX2_appealSum_0 rfl (lv_at hl 0 rfl) ?_
  refine fg_X2_19 C hw h0 dX2_appealSum_1 ?_
  refine lv_topi (fun x2_1 ex2_1 => ?_)
  have hf := x_lE ex2_1 hf
  refine lv_istore_n (lv' := [(2, .int x2_1), (0, .ref (g.2.2.1 k0)), (1, .int a1)]) hx hb dX2_appealSum_4 rfl hl (by decide) rfl (fun ls hl => ?_)
  refine lv_aload_n hx hb dX2_appealSum_5 rfl (lv_at hl 1 rfl) ?_
  refine lv_iload_n hx hb dX2_appealSum_6 rfl (lv_at hl 2 rfl) ?_
  refine fp_X2_19 C hw h0 dX2_appealSum_7 (fun H locs hw => ?_)
  obtain ⟨M_2, eM_2⟩ : ∃ z, z = (x_up M k0 3 a1) := ⟨_, rfl⟩
  rw [← eM_2] at hw
  have hf := x_lE eM_2 hf
  refine lv_aload_n hx hb dX2_appealSum_10 rfl (lv_at hl 1 rfl) ?_
  refine lv_iconst (v := (1 : Int32)) hx hb dX2_appealSum_11 (by decide) ?_
  refine fp_X2_38 C hw (⟨rfl, rfl⟩ : _ ∧ _) h0 dX2_appealSum_12 (fun H locs hw => ?_)
  obtain ⟨M_3, eM_3⟩ : ∃ z, z = (x_up M_2 k0 9 (1 : Int32)) := ⟨_, rfl⟩
  rw [← eM_3] at hw
  have hf := x_lE eM_3 hf
  refine lv_iload_n hx hb dX2_appealSum_15 rfl (lv_at hl 0 rfl) ?_
  exact ret hf dX2_appealSum_16 hw
noncomputable def fX3_become (M : xM) (k0 : Nat) (a1 : Nat) : Option (xM) := x_cp (0 : Int32) (0 : Int32) (120 : Int32) (xn 0 (xr 0 a1 0)) (xn 0 (xr 0 k0 0)) (x_l (x_mv M (xr 0 a1 0) (xr 0 k0 0) (0 : Int32).toNatClampNeg (0 : Int32).toNatClampNeg (120 : Int32).toNatClampNeg) fun M_4 => x_cp (0 : Int32) (0 : Int32) (3 : Int32) (xn 0 (xr 0 a1 1)) (xn 0 (xr 0 k0 1)) (x_l (x_mv M_4 (xr 0 a1 1) (xr 0 k0 1) (0 : Int32).toNatClampNeg (0 : Int32).toNatClampNeg (3 : Int32).toNatClampNeg) fun M_8 => x_l (x_up M_8 k0 2 (M_8 a1 2)) fun M_9 => x_l (x_up M_9 k0 3 (M_9 a1 3)) fun M_10 => some M_10))
set_option maxRecDepth 100000 in
set_option maxHeartbeats 4000000 in
theorem mX3_become (l : Launch) (g : xG) {k0 : Nat} {a1 : Nat} {M' : xM} (h0 : x_is 0 k0 3) (ha1 : x_is 0 a1 3) {M : xM} (hf : fX3_become M k0 a1 = some M') : x_cV l g 0 yX3_become cX3_become 2 1 60 [.ref (g.2.2.1 k0), .ref (g.2.2.1 a1)] M (fun N => N = M') := by
  refine x_stV RX3 (by decide) rfl (Nat.le_of_ble_eq_true rfl) ?_
  intro p e s m args below meth c Q ls C hw ret hl
  obtain ⟨hx, hb, hml, hown, hB, -⟩ := id C
  have hl : lv_has ls 2 [(0, .ref (g.2.2.1 k0)), (1, .ref (g.2.2.1 a1))] := hl
  unfold fX3_become at hf
  refine lv_aload_n hx hb dX3_become_0 rfl (lv_at hl 1 rfl) ?_
  refine fg_X3_9 C hw ha1 rfl dX3_become_1 ?_
  have h_1 : x_is 0 (xr 0 a1 0) 12 := x_tr ha1 (by decide) (by decide) rfl (by decide)
  refine lv_iconst (v := (0 : Int32)) hx hb dX3_become_4 (by decide) ?_
  refine lv_aload_n hx hb dX3_become_5 rfl (lv_at hl 0 rfl) ?_
  refine fg_X3_9 C hw h0 rfl dX3_become_6 ?_
  have h_2 : x_is 0 (xr 0 k0 0) 12 := x_tr h0 (by decide) (by decide) rfl (by decide)
  refine lv_iconst (v := (0 : Int32)) hx hb dX3_become_9 (by decide) ?_
  refine lv_bipush (v := (120 : Int32)) hx hb dX3_become_10 (by decide) ?_
  obtain ⟨q_3, hf⟩ := x_cpE hf
  refine cpy_X3_25 C hw hl.1 h_1 h_2 q_3 (Nat.le_of_ble_eq_true rfl) (Nat.le_of_ble_eq_true rfl) dX3_become_12 (fun H locs hw => ?_)
  obtain ⟨M_4, eM_4⟩ : ∃ z, z = (x_mv M (xr 0 a1 0) (xr 0 k0 0) (0 : Int32).toNatClampNeg (0 : Int32).toNatClampNeg (120 : Int32).toNatClampNeg) := ⟨_, rfl⟩
  rw [← eM_4] at hw
  have hf := x_lE eM_4 hf
  refine lv_aload_n hx hb dX3_become_15 rfl (lv_at hl 1 rfl) ?_
  refine fg_X3_15 C hw ha1 rfl dX3_become_16 ?_
  have h_5 : x_is 0 (xr 0 a1 1) 12 := x_tr ha1 (by decide) (by decide) rfl (by decide)
  refine lv_iconst (v := (0 : Int32)) hx hb dX3_become_19 (by decide) ?_
  refine lv_aload_n hx hb dX3_become_20 rfl (lv_at hl 0 rfl) ?_
  refine fg_X3_15 C hw h0 rfl dX3_become_21 ?_
  have h_6 : x_is 0 (xr 0 k0 1) 12 := x_tr h0 (by decide) (by decide) rfl (by decide)
  refine lv_iconst (v := (0 : Int32)) hx hb dX3_become_24 (by decide) ?_
  refine lv_iconst (v := (3 : Int32)) hx hb dX3_become_25 (by decide) ?_
  obtain ⟨q_7, hf⟩ := x_cpE hf
  refine cpy_X3_25 C hw hl.1 h_5 h_6 q_7 (Nat.le_of_ble_eq_true rfl) (Nat.le_of_ble_eq_true rfl) dX3_become_26 (fun H locs hw => ?_)
  obtain ⟨M_8, eM_8⟩ : ∃ z, z = (x_mv M_4 (xr 0 a1 1) (xr 0 k0 1) (0 : Int32).toNatClampNeg (0 : Int32).toNatClampNeg (3 : Int32).toNatClampNeg) := ⟨_, rfl⟩
  rw [← eM_8] at hw
  have hf := x_lE eM_8 hf
  refine lv_aload_n hx hb dX3_become_29 rfl (lv_at hl 0 rfl) ?_
  refine lv_aload_n hx hb dX3_become_30 rfl (lv_at hl 1 rfl) ?_
  refine fg_X3_18 C hw ha1 dX3_become_31 ?_
  refine fp_X3_18 C hw h0 dX3_become_34 (fun H locs hw => ?_)
  obtain ⟨M_9, eM_9⟩ : ∃ z, z = (x_up M_8 k0 2 (M_8 a1 2)) := ⟨_, rfl⟩
  rw [← eM_9] at hw
  have hf := x_lE eM_9 hf
  refine lv_aload_n hx hb dX3_become_37 rfl (lv_at hl 0 rfl) ?_
  refine lv_aload_n hx hb dX3_become_38 rfl (lv_at hl 1 rfl) ?_
  refine fg_X3_22 C hw ha1 dX3_become_39 ?_
  refine fp_X3_22 C hw h0 dX3_become_42 (fun H locs hw => ?_)
  obtain ⟨M_10, eM_10⟩ : ∃ z, z = (x_up M_9 k0 3 (M_9 a1 3)) := ⟨_, rfl⟩
  rw [← eM_10] at hw
  have hf := x_lE eM_10 hf
  exact ret hf dX3_become_45 hw
noncomputable def fX3_write (M : xM) (a1 : Int32) : Option (xM) := if (M 12 2) < (120 : Int32) then (x_g (M 12 2) 120 (x_l (x_up M 15 (M 12 2).toNatClampNeg a1) fun M_3 => x_l (x_up M_3 12 2 ((M_3 12 2) + (1 : Int32))) fun M_4 => some M_4)) else (some M)
set_option maxRecDepth 100000 in
set_option maxHeartbeats 4000000 in
theorem mX3_write (l : Launch) (g : xG) {a1 : Int32} {M' : xM}  {M : xM} (hf : fX3_write M a1 = some M') : x_cV l g 0 yX3_write cX3_write 2 0 0 [.ref (g.2.2.1 12), .int a1] M (fun N => N = M') := by
  refine x_stV RX3 (by decide) rfl (Nat.le_of_ble_eq_true rfl) ?_
  intro p e s m args below meth c Q ls C hw ret hl
  obtain ⟨hx, hb, hml, hown, hB, -⟩ := id C
  have hl : lv_has ls 2 [(0, .ref (g.2.2.1 12)), (1, .int a1)] := hl
  unfold fX3_write at hf
  refine lv_aload_n hx hb dX3_write_0 rfl (lv_at hl 0 rfl) ?_
  refine fg_X3_18 C hw ic0_12 dX3_write_1 ?_
  refine lv_bipush (v := (120 : Int32)) hx hb dX3_write_4 (by decide) ?_
  refine lv_icmp_lt (tgt := 10) hx hb dX3_write_6 (by decide) (fun q_1 => ?_) (fun q_1 => ?_)
  · have hf := x_iP hf q_1
    refine lv_aload_n hx hb dX3_write_10 rfl (lv_at hl 0 rfl) ?_
    refine fg_X3_9 (k2 := 15) C hw ic0_12 rfl dX3_write_11 ?_
    refine lv_aload_n hx hb dX3_write_14 rfl (lv_at hl 0 rfl) ?_
    refine fg_X3_18 C hw ic0_12 dX3_write_15 ?_
    refine lv_iload_n hx hb dX3_write_18 rfl (lv_at hl 1 rfl) ?_
    obtain ⟨q_2, hf⟩ := x_gE hf
    refine x_ast C hw ic0_15 q_2 rfl dX3_write_19 (fun H locs hw => ?_)
    obtain ⟨M_3, eM_3⟩ : ∃ z, z = (x_up M 15 (M 12 2).toNatClampNeg a1) := ⟨_, rfl⟩
    rw [← eM_3] at hw
    have hf := x_lE eM_3 hf
    refine lv_aload_n hx hb dX3_write_20 rfl (lv_at hl 0 rfl) ?_
    refine lv_dup hx hb dX3_write_21 rfl ?_
    refine fg_X3_18 C hw ic0_12 dX3_write_22 ?_
    refine lv_iconst (v := (1 : Int32)) hx hb dX3_write_25 (by decide) ?_
    refine lv_iadd hx hb dX3_write_26 ?_
    refine fp_X3_18 C hw ic0_12 dX3_write_27 (fun H locs hw => ?_)
    obtain ⟨M_4, eM_4⟩ : ∃ z, z = (x_up M_3 12 2 ((M_3 12 2) + (1 : Int32))) := ⟨_, rfl⟩
    rw [← eM_4] at hw
    have hf := x_lE eM_4 hf
    exact ret hf dX3_write_30 hw
  · have hf := x_iN hf q_1
    exact ret hf dX3_write_9 hw
noncomputable def fX4_begin (M : xM) (k0 : Nat) (a1 : Int32) : Option (xM) := x_l (x_up M k0 0 a1) fun M_1 => x_l (x_up M_1 k0 1 (-1 : Int32)) fun M_2 => x_l (x_up M_2 k0 2 (0 : Int32)) fun M_3 => some M_3
set_option maxRecDepth 100000 in
set_option maxHeartbeats 4000000 in
theorem mX4_begin (l : Launch) (g : xG) {k0 : Nat} {a1 : Int32} {M' : xM} (h0 : x_is 0 k0 4) {M : xM} (hf : fX4_begin M k0 a1 = some M') : x_cV l g 0 yX4_begin cX4_begin 2 0 0 [.ref (g.2.2.1 k0), .int a1] M (fun N => N = M') := by
  refine x_stV RX4 (by decide) rfl (Nat.le_of_ble_eq_true rfl) ?_
  intro p e s m args below meth c Q ls C hw ret hl
  obtain ⟨hx, hb, hml, hown, hB, -⟩ := id C
  have hl : lv_has ls 2 [(0, .ref (g.2.2.1 k0)), (1, .int a1)] := hl
  unfold fX4_begin at hf
  refine lv_aload_n hx hb dX4_begin_0 rfl (lv_at hl 0 rfl) ?_
  refine lv_iload_n hx hb dX4_begin_1 rfl (lv_at hl 1 rfl) ?_
  refine fp_X4_9 C hw h0 dX4_begin_2 (fun H locs hw => ?_)
  obtain ⟨M_1, eM_1⟩ : ∃ z, z = (x_up M k0 0 a1) := ⟨_, rfl⟩
  rw [← eM_1] at hw
  have hf := x_lE eM_1 hf
  refine lv_aload_n hx hb dX4_begin_5 rfl (lv_at hl 0 rfl) ?_
  refine lv_iconst (v := (-1 : Int32)) hx hb dX4_begin_6 (by decide) ?_
  refine fp_X4_15 C hw h0 dX4_begin_7 (fun H locs hw => ?_)
  obtain ⟨M_2, eM_2⟩ : ∃ z, z = (x_up M_1 k0 1 (-1 : Int32)) := ⟨_, rfl⟩
  rw [← eM_2] at hw
  have hf := x_lE eM_2 hf
  refine lv_aload_n hx hb dX4_begin_10 rfl (lv_at hl 0 rfl) ?_
  refine lv_iconst (v := (0 : Int32)) hx hb dX4_begin_11 (by decide) ?_
  refine fp_X4_18 C hw h0 dX4_begin_12 (fun H locs hw => ?_)
  obtain ⟨M_3, eM_3⟩ : ∃ z, z = (x_up M_2 k0 2 (0 : Int32)) := ⟨_, rfl⟩
  rw [← eM_3] at hw
  have hf := x_lE eM_3 hf
  exact ret hf dX4_begin_15 hw
noncomputable def fX4_become (M : xM) (k0 : Nat) (a1 : Nat) : Option (xM) := x_l (x_up M k0 0 (M a1 0)) fun M_1 => x_l (x_up M_1 k0 1 (M_1 a1 1)) fun M_2 => x_l (x_up M_2 k0 2 (M_2 a1 2)) fun M_3 => some M_3
set_option maxRecDepth 100000 in
set_option maxHeartbeats 4000000 in
theorem mX4_become (l : Launch) (g : xG) {k0 : Nat} {a1 : Nat} {M' : xM} (h0 : x_is 0 k0 4) (ha1 : x_is 0 a1 4) {M : xM} (hf : fX4_become M k0 a1 = some M') : x_cV l g 0 yX4_become cX4_become 2 0 0 [.ref (g.2.2.1 k0), .ref (g.2.2.1 a1)] M (fun N => N = M') := by
  refine x_stV RX4 (by decide) rfl (Nat.le_of_ble_eq_true rfl) ?_
  intro p e s m args below meth c Q ls C hw ret hl
  obtain ⟨hx, hb, hml, hown, hB, -⟩ := id C
  have hl : lv_has ls 2 [(0, .ref (g.2.2.1 k0)), (1, .ref (g.2.2.1 a1))] := hl
  unfold fX4_become at hf
  refine lv_aload_n hx hb dX4_become_0 rfl (lv_at hl 0 rfl) ?_
  refine lv_aload_n hx hb dX4_become_1 rfl (lv_at hl 1 rfl) ?_
  refine fg_X4_9 C hw ha1 dX4_become_2 ?_
  refine fp_X4_9 C hw h0 dX4_become_5 (fun H locs hw => ?_)
  obtain ⟨M_1, eM_1⟩ : ∃ z, z = (x_up M k0 0 (M a1 0)) := ⟨_, rfl⟩
  rw [← eM_1] at hw
  have hf := x_lE eM_1 hf
  refine lv_aload_n hx hb dX4_become_8 rfl (lv_at hl 0 rfl) ?_
  refine lv_aload_n hx hb dX4_become_9 rfl (lv_at hl 1 rfl) ?_
  refine fg_X4_15 C hw ha1 dX4_become_10 ?_
  refine fp_X4_15 C hw h0 dX4_become_13 (fun H locs hw => ?_)
  obtain ⟨M_2, eM_2⟩ : ∃ z, z = (x_up M_1 k0 1 (M_1 a1 1)) := ⟨_, rfl⟩
  rw [← eM_2] at hw
  have hf := x_lE eM_2 hf
  refine lv_aload_n hx hb dX4_become_16 rfl (lv_at hl 0 rfl) ?_
  refine lv_aload_n hx hb dX4_become_17 rfl (lv_at hl 1 rfl) ?_
  refine fg_X4_18 C hw ha1 dX4_become_18 ?_
  refine fp_X4_18 C hw h0 dX4_become_21 (fun H locs hw => ?_)
  obtain ⟨M_3, eM_3⟩ : ∃ z, z = (x_up M_2 k0 2 (M_2 a1 2)) := ⟨_, rfl⟩
  rw [← eM_3] at hw
  have hf := x_lE eM_3 hf
  exact ret hf dX4_become_24 hw
noncomputable def fX4_isCoupled (M : xM) (k0 : Nat) : Option (Int32 × xM) := if (M k0 1) = (-1 : Int32) then (some ((0 : Int32), M)) else (some ((1 : Int32), M))
set_option maxRecDepth 100000 in
set_option maxHeartbeats 4000000 in
theorem mX4_isCoupled (l : Launch) (g : xG) {k0 : Nat} {r : Int32} {M' : xM} (h0 : x_is 0 k0 4) {M : xM} (hf : fX4_isCoupled M k0 = some (r, M')) : x_cI l g 0 yX4_isCoupled cX4_isCoupled 1 .boolean 0 0 [.ref (g.2.2.1 k0)] M (fun v N => v = r ∧ N = M') := by
  refine x_stZ RX4 (by decide) rfl (Nat.le_of_ble_eq_true rfl) ?_
  intro p e s m args below meth c Q ls C hw ret hl
  obtain ⟨hx, hb, hml, hown, hB, -⟩ := id C
  have hl : lv_has ls 1 [(0, .ref (g.2.2.1 k0))] := hl
  unfold fX4_isCoupled at hf
  refine lv_aload_n hx hb dX4_isCoupled_0 rfl (lv_at hl 0 rfl) ?_
  refine fg_X4_15 C hw h0 dX4_isCoupled_1 ?_
  refine lv_iconst (v := (-1 : Int32)) hx hb dX4_isCoupled_4 (by decide) ?_
  refine lv_icmp_eq (tgt := 12) hx hb dX4_isCoupled_5 (by decide) (fun q_1 => ?_) (fun q_1 => ?_)
  · have hf := x_iP hf q_1
    refine lv_iconst (v := (0 : Int32)) hx hb dX4_isCoupled_12 (by decide) ?_
    exact ret ((x_zl0 _).trans hf) dX4_isCoupled_13 hw
  · have hf := x_iN hf q_1
    refine lv_iconst (v := (1 : Int32)) hx hb dX4_isCoupled_8 (by decide) ?_
    refine lv_goto (tgt := 13) hx hb dX4_isCoupled_9 (by decide) ?_
    exact ret ((x_zl1 _).trans hf) dX4_isCoupled_13 hw
noncomputable def fX4_isOfKind (M : xM) (k0 : Nat) (a1 : Int32) : Option (Int32 × xM) := x_l (fun (M_2 : xM) => some ((1 : Int32), M_2)) fun k25_1 => if a1 = 0 then (k25_1 M) else (if a1 = (M k0 0) then (k25_1 M) else (x_l (fun (M_6 : xM) => some ((0 : Int32), M_6)) fun k29_5 => if a1 = (1 : Int32) then (if (M k0 0) = (2 : Int32) then (k25_1 M) else (k29_5 M)) else (k29_5 M)))
set_option maxRecDepth 100000 in
set_option maxHeartbeats 4000000 in
theorem mX4_isOfKind (l : Launch) (g : xG) {k0 : Nat} {a1 : Int32} {r : Int32} {M' : xM} (h0 : x_is 0 k0 4) {M : xM} (hf : fX4_isOfKind M k0 a1 = some (r, M')) : x_cI l g 0 yX4_isOfKind cX4_isOfKind 2 .boolean 0 0 [.ref (g.2.2.1 k0), .int a1] M (fun v N => v = r ∧ N = M') := by
  refine x_stZ RX4 (by decide) rfl (Nat.le_of_ble_eq_true rfl) ?_
  intro p e s m args below meth c Q ls C hw ret hl
  obtain ⟨hx, hb, hml, hown, hB, -⟩ := id C
  have hl : lv_has ls 2 [(0, .ref (g.2.2.1 k0)), (1, .int a1)] := hl
  unfold fX4_isOfKind at hf
  refine lv_iload_n hx hb dX4_isOfKind_0 rfl (lv_at hl 1 rfl) ?_
  obtain ⟨k25_1, ek25_1, hf⟩ := x_jE hf
  have hk25_1 : ∀ (H : Heap) (locs : List Loc) (M_2 : xM)  (ls : Array Slot) , lv_has ls 2 [] → x_w g 0 s H locs M_2 → k25_1 M_2 = some (r, M') → W p l e (x_rm 0 0) s m args below meth c H locs 0 0 Q (F0 m 25 ls []) := by
    intro H locs M_2  ls  hl hw hf
    rw [ek25_1] at hf
    refine lv_iconst (v := (1 : Int32)) hx hb dX4_isOfKind_25 (by decide) ?_
    refine lv_goto (tgt := 30) hx hb dX4_isOfKind_26 (by decide) ?_
    exact ret ((x_zl1 _).trans hf) dX4_isOfKind_30 hw
  refine lv_if_eq (tgt := 25) hx hb dX4_isOfKind_1 (by decide) (fun q_3 => ?_) (fun q_3 => ?_)
  · have hf := x_iP hf q_3
    exact hk25_1 _ _ _ _ (lv_sub hl [] rfl) hw hf
  · have hf := x_iN hf q_3
    refine lv_iload_n hx hb dX4_isOfKind_4 rfl (lv_at hl 1 rfl) ?_
    refine lv_aload_n hx hb dX4_isOfKind_5 rfl (lv_at hl 0 rfl) ?_
    refine fg_X4_9 C hw h0 dX4_isOfKind_6 ?_
    refine lv_icmp_eq (tgt := 25) hx hb dX4_isOfKind_9 (by decide) (fun q_4 => ?_) (fun q_4 => ?_)
    · have hf := x_iP hf q_4
      exact hk25_1 _ _ _ _ (lv_sub hl [] rfl) hw hf
    · have hf := x_iN hf q_4
      refine lv_iload_n hx hb dX4_isOfKind_12 rfl (lv_at hl 1 rfl) ?_
      refine lv_iconst (v := (1 : Int32)) hx hb dX4_isOfKind_13 (by decide) ?_
      obtain ⟨k29_5, ek29_5, hf⟩ := x_jE hf
      have hk29_5 : ∀ (H : Heap) (locs : List Loc) (M_6 : xM)  (ls : Array Slot) , lv_has ls 2 [] → x_w g 0 s H locs M_6 → k29_5 M_6 = some (r, M') → W p l e (x_rm 0 0) s m args below meth c H locs 0 0 Q (F0 m 29 ls []) := by
        intro H locs M_6  ls  hl hw hf
        rw [ek29_5] at hf
        refine lv_iconst (v := (0 : Int32)) hx hb dX4_isOfKind_29 (by decide) ?_
        exact ret ((x_zl0 _).trans hf) dX4_isOfKind_30 hw
      refine lv_icmp_ne (tgt := 29) hx hb dX4_isOfKind_14 (by decide) (fun q_7 => ?_) (fun q_7 => ?_)
      · have hf := x_iN hf q_7
        exact hk29_5 _ _ _ _ (lv_sub hl [] rfl) hw hf
      · have hf := x_iP hf q_7
        refine lv_aload_n hx hb dX4_isOfKind_17 rfl (lv_at hl 0 rfl) ?_
        refine fg_X4_9 C hw h0 dX4_isOfKind_18 ?_
        refine lv_iconst (v := (2 : Int32)) hx hb dX4_isOfKind_21 (by decide) ?_
        refine lv_icmp_ne (tgt := 29) hx hb dX4_isOfKind_22 (by decide) (fun q_8 => ?_) (fun q_8 => ?_)
        · have hf := x_iN hf q_8
          exact hk29_5 _ _ _ _ (lv_sub hl [] rfl) hw hf
        · have hf := x_iP hf q_8
          exact hk25_1 _ _ _ _ (lv_sub hl [] rfl) hw hf
noncomputable def fX5_isOwing (M : xM) (a2 : Int32) (a3 : Int32) : Option (Int32 × xM) := x_g a2 16 (x_l (fun (M_4 : xM) => some ((0 : Int32), M_4)) fun k34_3 => if (M (169 + a2.toNatClampNeg) 0) = a3 then (if (M (169 + a2.toNatClampNeg) 5) = (3 : Int32) then (k34_3 M) else (x_b (fX2_unpaidCoins M (169 + a2.toNatClampNeg)) fun v_9 M_7 => if v_9 ≤ 0 then (k34_3 M_7) else (some ((1 : Int32), M_7)))) else (k34_3 M))
set_option maxRecDepth 100000 in
set_option maxHeartbeats 4000000 in
theorem mX5_isOwing (l : Launch) (g : xG) {a2 : Int32} {a3 : Int32} {r : Int32} {M' : xM}  {M : xM} (hf : fX5_isOwing M a2 a3 = some (r, M')) : x_cI l g 0 yX5_isOwing cX5_isOwing 4 .boolean 2 43 [.ref (g.2.2.1 1), .int a2, .int a3] M (fun v N => v = r ∧ N = M') := by
  refine x_stZ RX5 (by decide) rfl (Nat.le_of_ble_eq_true rfl) ?_
  intro p e s m args below meth c Q ls C hw ret hl
  obtain ⟨hx, hb, hml, hown, hB, -⟩ := id C
  have hl : lv_has ls 4 [(0, .ref (g.2.2.1 1)), (1, .int a2), (2, .int a3)] := hl
  unfold fX5_isOwing at hf
  refine lv_aload_n hx hb dX5_isOwing_0 rfl (lv_at hl 0 rfl) ?_
  refine fg_X5_52 (k2 := 22) C hw ic0_1 rfl dX5_isOwing_1 ?_
  refine lv_iload_n hx hb dX5_isOwing_4 rfl (lv_at hl 1 rfl) ?_
  obtain ⟨q_1, hf⟩ := x_gE hf
  refine x_rld (t := 4) (k2 := (169 + a2.toNatClampNeg)) C hw ic0_22 (by decide) rfl q_1 (rr0_22 _) dX5_isOwing_5 ?_
  have h_2 : x_is 0 (169 + a2.toNatClampNeg) 2 := (rr0_22 a2.toNatClampNeg) ▸ x_ta ic0_22 (by decide) (x_ilt q_1)
  refine lv_astore_n (lv' := [(3, .ref (g.2.2.1 (169 + a2.toNatClampNeg))), (0, .ref (g.2.2.1 1)), (1, .int a2), (2, .int a3)]) hx hb dX5_isOwing_6 rfl hl (by decide) rfl (fun ls hl => ?_)
  refine lv_aload_n hx hb dX5_isOwing_7 rfl (lv_at hl 0 rfl) ?_
  refine fg_X5_56 C hw h_2 dX5_isOwing_8 ?_
  refine lv_iload_n hx hb dX5_isOwing_11 rfl (lv_at hl 3 rfl) ?_
  obtain ⟨k34_3, ek34_3, hf⟩ := x_jE hf
  have hk34_3 : ∀ (H : Heap) (locs : List Loc) (M_4 : xM)  (ls : Array Slot) , lv_has ls 4 [] → x_w g 0 s H locs M_4 → k34_3 M_4 = some (r, M') → W p l e (x_rm 2 43) s m args below meth c H locs 0 0 Q (F0 m 34 ls []) := by
    intro H locs M_4  ls  hl hw hf
    rw [ek34_3] at hf
    refine lv_iconst (v := (0 : Int32)) hx hb dX5_isOwing_34 (by decide) ?_
    exact ret ((x_zl0 _).trans hf) dX5_isOwing_35 hw
  refine lv_icmp_ne (tgt := 34) hx hb dX5_isOwing_12 (by decide) (fun q_5 => ?_) (fun q_5 => ?_)
  · have hf := x_iN hf q_5
    exact hk34_3 _ _ _ _ (lv_sub hl [] rfl) hw hf
  · have hf := x_iP hf q_5
    refine lv_aload_n hx hb dX5_isOwing_15 rfl (lv_at hl 0 rfl) ?_
    refine fg_X5_61 C hw h_2 dX5_isOwing_16 ?_
    refine lv_iconst (v := (3 : Int32)) hx hb dX5_isOwing_19 (by decide) ?_
    refine lv_icmp_eq (tgt := 34) hx hb dX5_isOwing_20 (by decide) (fun q_6 => ?_) (fun q_6 => ?_)
    · have hf := x_iP hf q_6
      exact hk34_3 _ _ _ _ (lv_sub hl [] rfl) hw hf
    · have hf := x_iN hf q_6
      refine lv_aload_n hx hb dX5_isOwing_23 rfl (lv_at hl 0 rfl) ?_
      obtain ⟨tv_9, tM_7, c_8, hf⟩ := x_bE hf
      refine x_vI C hw hl.1 [] [] (mX2_unpaidCoins l g h_2 c_8) lk_X5_64 h_2 (by decide) rfl (by decide) rfl (Nat.le_of_ble_eq_true rfl) ⟨Nat.zero_le _, Nat.zero_le _⟩ dX5_isOwing_24 (fun v_9 M_7 H locs hN hw => ?_)
      obtain ⟨rfl, rfl⟩ := hN
      refine lv_if_le (tgt := 34) hx hb dX5_isOwing_27 (by decide) (fun q_10 => ?_) (fun q_10 => ?_)
      · have hf := x_iP hf q_10
        exact hk34_3 _ _ _ _ (lv_sub hl [] rfl) hw hf
      · have hf := x_iN hf q_10
        refine lv_iconst (v := (1 : Int32)) hx hb dX5_isOwing_30 (by decide) ?_
        refine lv_goto (tgt := 35) hx hb dX5_isOwing_31 (by decide) ?_
        exact ret ((x_zl1 _).trans hf) dX5_isOwing_35 hw
noncomputable def fX5_owedIn_L4 (a2 : Int32) : Nat → xM → Int32 → Int32 → Option (Int32 × xM)
  | 0, _, _, _ => none
  | n_4 + 1, M_3, x2_1, x3_2 => if (M_3 1 4) ≤ x3_2 then (some (x2_1, M_3)) else (x_b (fX5_isOwing M_3 x3_2 a2) fun v_9 M_7 => x_l (fun (M_12 : xM) (x2_10 : Int32) => x_l (x3_2 + (1 : Int32)) fun x3_13 => fX5_owedIn_L4 a2 n_4 M_12 x2_10 x3_13) fun k33_11 => if v_9 = 0 then (k33_11 M_7 x2_1) else (x_g x3_2 16 (x_b (fX2_unpaidCoins M_7 (169 + x3_2.toNatClampNeg)) fun v_19 M_17 => x_l (x2_1 + v_19) fun x2_20 => k33_11 M_17 x2_20)))
noncomputable def fX5_owedIn (M : xM) (a2 : Int32) : Option (Int32 × xM) := fX5_owedIn_L4 a2 x_FU M (0 : Int32) (0 : Int32)
set_option maxRecDepth 100000 in
set_option maxHeartbeats 4000000 in
theorem mX5_owedIn (l : Launch) (g : xG) {a2 : Int32} {r : Int32} {M' : xM}  {M : xM} (hf : fX5_owedIn M a2 = some (r, M')) : x_cI l g 0 yX5_owedIn cX5_owedIn 4 .int 3 66 [.ref (g.2.2.1 1), .int a2] M (fun v N => v = r ∧ N = M') := by
  refine x_stI RX5 (by decide) rfl (Nat.le_of_ble_eq_true rfl) ?_
  intro p e s m args below meth c Q ls C hw ret hl
  obtain ⟨hx, hb, hml, hown, hB, -⟩ := id C
  have hl : lv_has ls 4 [(0, .ref (g.2.2.1 1)), (1, .int a2)] := hl
  unfold fX5_owedIn at hf
  refine lv_iconst (v := (0 : Int32)) hx hb dX5_owedIn_0 (by decide) ?_
  refine lv_istore_n (lv' := [(2, .int (0 : Int32)), (0, .ref (g.2.2.1 1)), (1, .int a2)]) hx hb dX5_owedIn_1 rfl hl (by decide) rfl (fun ls hl => ?_)
  refine lv_iconst (v := (0 : Int32)) hx hb dX5_owedIn_2 (by decide) ?_
  refine lv_istore_n (lv' := [(3, .int (0 : Int32)), (2, .int (0 : Int32)), (0, .ref (g.2.2.1 1)), (1, .int a2)]) hx hb dX5_owedIn_3 rfl hl (by decide) rfl (fun ls hl => ?_)
  have hL_21 : ∀ (n_4 : Nat) (H : Heap) (locs : List Loc) (M_3 : xM) (x2_1 : Int32) (x3_2 : Int32) (ls : Array Slot) , lv_has ls 4 [(0, .ref (g.2.2.1 1)), (1, .int a2), (2, .int x2_1), (3, .int x3_2)] → x_w g 0 s H locs M_3 → fX5_owedIn_L4 a2 n_4 M_3 x2_1 x3_2 = some (r, M') → W p l e (x_rm 3 66) s m args below meth c H locs 0 0 Q (F0 m 4 ls []) := by
    intro n_4
    induction n_4 with
    | zero =>
      intro H locs M_3 x2_1 x3_2 ls  hl hw hf
      rw [fX5_owedIn_L4] at hf
      cases hf
    | succ n_4 ih_5 =>
      intro H locs M_3 x2_1 x3_2 ls  hl hw hf
      rw [fX5_owedIn_L4] at hf
      refine lv_iload_n hx hb dX5_owedIn_4 rfl (lv_at hl 3 rfl) ?_
      refine lv_aload_n hx hb dX5_owedIn_5 rfl (lv_at hl 0 rfl) ?_
      refine fg_X5_68 C hw ic0_1 dX5_owedIn_6 ?_
      refine lv_icmp_ge (tgt := 39) hx hb dX5_owedIn_9 (by decide) (fun q_6 => ?_) (fun q_6 => ?_)
      · have hf := x_iP hf q_6
        refine lv_iload_n hx hb dX5_owedIn_39 rfl (lv_at hl 2 rfl) ?_
        exact ret hf dX5_owedIn_40 hw
      · have hf := x_iN hf q_6
        refine lv_aload_n hx hb dX5_owedIn_12 rfl (lv_at hl 0 rfl) ?_
        refine lv_iload_n hx hb dX5_owedIn_13 rfl (lv_at hl 3 rfl) ?_
        refine lv_iload_n hx hb dX5_owedIn_14 rfl (lv_at hl 1 rfl) ?_
        obtain ⟨tv_9, tM_7, c_8, hf⟩ := x_bE hf
        refine x_sI C hw hl.1 [.ref (g.2.2.1 1), .int x3_2, .int a2] [] (mX5_isOwing l g c_8) lk_X5_71 (by decide) rfl (Nat.le_of_ble_eq_true rfl) ⟨Nat.zero_le _, Nat.zero_le _⟩ dX5_owedIn_15 (fun v_9 M_7 H locs hN hw => ?_)
        obtain ⟨rfl, rfl⟩ := hN
        obtain ⟨k33_11, ek33_11, hf⟩ := x_jE hf
        have hk33_11 : ∀ (H : Heap) (locs : List Loc) (M_12 : xM) (x2_10 : Int32) (ls : Array Slot) , lv_has ls 4 [(0, .ref (g.2.2.1 1)), (1, .int a2), (3, .int x3_2), (2, .int x2_10)] → x_w g 0 s H locs M_12 → k33_11 M_12 x2_10 = some (r, M') → W p l e (x_rm 3 66) s m args below meth c H locs 0 0 Q (F0 m 33 ls []) := by
          intro H locs M_12 x2_10 ls  hl hw hf
          rw [ek33_11] at hf
          obtain ⟨x3_13, ex3_13⟩ : ∃ z : Int32, z = (x3_2 + (1 : Int32)) := ⟨_, rfl⟩
          have hf := x_lE ex3_13 hf
          refine lv_iinc (v := x3_13) (lv' := [(3, .int x3_13), (0, .ref (g.2.2.1 1)), (1, .int a2), (2, .int x2_10)]) hx hb dX5_owedIn_33 hl (k := 2) rfl (by rw [ex3_13]; rfl) (by decide) rfl (fun ls hl => ?_)
          refine lv_goto (tgt := 4) hx hb dX5_owedIn_36 (by decide) ?_
          exact ih_5 _ _ _ _ _ _ (lv_sub hl [1, 2, 3, 0] rfl) hw hf
        refine lv_if_eq (tgt := 33) hx hb dX5_owedIn_18 (by decide) (fun q_14 => ?_) (fun q_14 => ?_)
        · have hf := x_iP hf q_14
          exact hk33_11 _ _ _ _ _ (lv_sub hl [0, 1, 3, 2] rfl) hw hf
        · have hf := x_iN hf q_14
          refine lv_iload_n hx hb dX5_owedIn_21 rfl (lv_at hl 2 rfl) ?_
          refine lv_aload_n hx hb dX5_owedIn_22 rfl (lv_at hl 0 rfl) ?_
          refine fg_X5_52 (k2 := 22) C hw ic0_1 rfl dX5_owedIn_23 ?_
          refine lv_iload_n hx hb dX5_owedIn_26 rfl (lv_at hl 3 rfl) ?_
          obtain ⟨q_15, hf⟩ := x_gE hf
          refine x_rld (t := 4) (k2 := (169 + x3_2.toNatClampNeg)) C hw ic0_22 (by decide) rfl q_15 (rr0_22 _) dX5_owedIn_27 ?_
          have h_16 : x_is 0 (169 + x3_2.toNatClampNeg) 2 := (rr0_22 x3_2.toNatClampNeg) ▸ x_ta ic0_22 (by decide) (x_ilt q_15)
          obtain ⟨tv_19, tM_17, c_18, hf⟩ := x_bE hf
          refine x_vI C hw hl.1 [] [.int x2_1] (mX2_unpaidCoins l g h_16 c_18) lk_X5_64 h_16 (by decide) rfl (by decide) rfl (Nat.le_of_ble_eq_true rfl) ⟨Nat.zero_le _, Nat.zero_le _⟩ dX5_owedIn_28 (fun v_19 M_17 H locs hN hw => ?_)
          obtain ⟨rfl, rfl⟩ := hN
          refine lv_iadd hx hb dX5_owedIn_31 ?_
          refine lv_topi (fun x2_20 ex2_20 => ?_)
          have hf := x_lE ex2_20 hf
          refine lv_istore_n (lv' := [(2, .int x2_20), (0, .ref (g.2.2.1 1)), (1, .int a2), (3, .int x3_2)]) hx hb dX5_owedIn_32 rfl hl (by decide) rfl (fun ls hl => ?_)
          exact hk33_11 _ _ _ _ _ (lv_sub hl [1, 2, 3, 0] rfl) hw hf
  exact hL_21 _ _ _ _ _ _ _ (lv_sub hl [2, 3, 1, 0] rfl) hw hf
noncomputable def fX8_valueOf_L6 (a1 : Int32) (a2 : Int32) (a3 : Int32) (a4 : Int32) (k71_2 : xM → Int32 → Option (Int32 × xM)) : Nat → xM → Int32 → Int32 → Option (Int32 × xM)
  | 0, _, _, _ => none
  | n_12 + 1, M_11, x5_9, x6_10 => if (M_11 1 2) ≤ x6_10 then (k71_2 M_11 x5_9) else (x_g x6_10 96 (x_b (fX1_tells M_11 (43 + x6_10.toNatClampNeg) a1 a2 a3 a4) fun v_19 M_17 => x_l (fun (M_22 : xM) (x5_20 : Int32) => x_l (x6_10 + (1 : Int32)) fun x6_23 => fX8_valueOf_L6 a1 a2 a3 a4 k71_2 n_12 M_22 x5_20 x6_23) fun k65_21 => if v_19 = 0 then (k65_21 M_17 x5_9) else (x_l (fun (M_26 : xM) => k65_21 M_26 x6_10) fun k61_25 => if x5_9 < 0 then (k61_25 M_17) else (x_g x6_10 96 (x_g x5_9 96 (x_b (fX1_outdoes M_17 (43 + x6_10.toNatClampNeg) (43 + x5_9.toNatClampNeg)) fun v_33 M_31 => if v_33 = 0 then (k65_21 M_31 x5_9) else (k61_25 M_31)))))))
noncomputable def fX8_valueOf (M : xM) (a1 : Int32) (a2 : Int32) (a3 : Int32) (a4 : Int32) : Option (Int32 × xM) := x_l (fun (M_3 : xM) (x5_1 : Int32) => if x5_1 < 0 then (if a2 = 0 then (some ((M_3 23 0), M_3)) else (some ((0 : Int32), M_3))) else (x_g x5_1 96 (some ((M_3 (43 + x5_1.toNatClampNeg) 3), M_3)))) fun k71_2 => fX8_valueOf_L6 a1 a2 a3 a4 k71_2 x_FU M (-1 : Int32) (0 : Int32)
set_option maxRecDepth 100000 in
set_option maxHeartbeats 4000000 in
theorem mX8_valueOf (l : Launch) (g : xG) {a1 : Int32} {a2 : Int32} {a3 : Int32} {a4 : Int32} {r : Int32} {M' : xM}  {M : xM} (hf : fX8_valueOf M a1 a2 a3 a4 = some (r, M')) : x_cI l g 0 yX8_valueOf cX8_valueOf 7 .int 1 24 [.ref (g.2.2.1 1), .int a1, .int a2, .int a3, .int a4] M (fun v N => v = r ∧ N = M') := by
  refine x_stI RX8 (by decide) rfl (Nat.le_of_ble_eq_true rfl) ?_
  intro p e s m args below meth c Q ls C hw ret hl
  obtain ⟨hx, hb, hml, hown, hB, -⟩ := id C
  have hl : lv_has ls 7 [(0, .ref (g.2.2.1 1)), (1, .int a1), (2, .int a2), (3, .int a3), (4, .int a4)] := hl
  unfold fX8_valueOf at hf
  refine lv_iconst (v := (-1 : Int32)) hx hb dX8_valueOf_0 (by decide) ?_
  refine lv_istore (lv' := [(5, .int (-1 : Int32)), (0, .ref (g.2.2.1 1)), (1, .int a1), (2, .int a2), (3, .int a3), (4, .int a4)]) hx hb dX8_valueOf_1 hl (by decide) rfl (fun ls hl => ?_)
  refine lv_iconst (v := (0 : Int32)) hx hb dX8_valueOf_3 (by decide) ?_
  refine lv_istore (lv' := [(6, .int (0 : Int32)), (5, .int (-1 : Int32)), (0, .ref (g.2.2.1 1)), (1, .int a1), (2, .int a2), (3, .int a3), (4, .int a4)]) hx hb dX8_valueOf_4 hl (by decide) rfl (fun ls hl => ?_)
  obtain ⟨k71_2, ek71_2, hf⟩ := x_jE hf
  have hk71_2 : ∀ (H : Heap) (locs : List Loc) (M_3 : xM) (x5_1 : Int32) (ls : Array Slot) , lv_has ls 7 [(0, .ref (g.2.2.1 1)), (2, .int a2), (5, .int x5_1)] → x_w g 0 s H locs M_3 → k71_2 M_3 x5_1 = some (r, M') → W p l e (x_rm 1 24) s m args below meth c H locs 0 0 Q (F0 m 71 ls []) := by
    intro H locs M_3 x5_1 ls  hl hw hf
    rw [ek71_2] at hf
    refine lv_iload hx hb dX8_valueOf_71 (lv_at hl 2 rfl) ?_
    refine lv_if_lt (tgt := 87) hx hb dX8_valueOf_73 (by decide) (fun q_4 => ?_) (fun q_4 => ?_)
    · have hf := x_iP hf q_4
      refine lv_iload_n hx hb dX8_valueOf_87 rfl (lv_at hl 1 rfl) ?_
      refine lv_if_ne (tgt := 100) hx hb dX8_valueOf_88 (by decide) (fun q_5 => ?_) (fun q_5 => ?_)
      · have hf := x_iN hf q_5
        refine lv_iconst (v := (0 : Int32)) hx hb dX8_valueOf_100 (by decide) ?_
        exact ret hf dX8_valueOf_101 hw
      · have hf := x_iP hf q_5
        refine lv_aload_n hx hb dX8_valueOf_91 rfl (lv_at hl 0 rfl) ?_
        refine fg_X8_60 (k2 := 23) C hw ic0_1 rfl dX8_valueOf_92 ?_
        refine lv_iconst (v := (0 : Int32)) hx hb dX8_valueOf_95 (by decide) ?_
        refine x_ald (j := 0) C hw ic0_23 (x_inl rfl) rfl dX8_valueOf_96 ?_
        refine lv_goto (tgt := 101) hx hb dX8_valueOf_97 (by decide) ?_
        exact ret hf dX8_valueOf_101 hw
    · have hf := x_iN hf q_4
      refine lv_aload_n hx hb dX8_valueOf_76 rfl (lv_at hl 0 rfl) ?_
      refine fg_X8_35 (k2 := 20) C hw ic0_1 rfl dX8_valueOf_77 ?_
      refine lv_iload hx hb dX8_valueOf_80 (lv_at hl 2 rfl) ?_
      obtain ⟨q_7, hf⟩ := x_gE hf
      refine x_rld (t := 3) (k2 := (43 + x5_1.toNatClampNeg)) C hw ic0_20 (by decide) rfl q_7 (rr0_20 _) dX8_valueOf_82 ?_
      have h_8 : x_is 0 (43 + x5_1.toNatClampNeg) 1 := (rr0_20 x5_1.toNatClampNeg) ▸ x_ta ic0_20 (by decide) (x_ilt q_7)
      refine fg_X8_121 C hw h_8 dX8_valueOf_83 ?_
      exact ret hf dX8_valueOf_86 hw
  have hL_35 : ∀ (n_12 : Nat) (H : Heap) (locs : List Loc) (M_11 : xM) (x5_9 : Int32) (x6_10 : Int32) (ls : Array Slot) , lv_has ls 7 [(0, .ref (g.2.2.1 1)), (1, .int a1), (2, .int a2), (3, .int a3), (4, .int a4), (5, .int x5_9), (6, .int x6_10)] → x_w g 0 s H locs M_11 → fX8_valueOf_L6 a1 a2 a3 a4 k71_2 n_12 M_11 x5_9 x6_10 = some (r, M') → W p l e (x_rm 1 24) s m args below meth c H locs 0 0 Q (F0 m 6 ls []) := by
    intro n_12
    induction n_12 with
    | zero =>
      intro H locs M_11 x5_9 x6_10 ls  hl hw hf
      rw [fX8_valueOf_L6] at hf
      cases hf
    | succ n_12 ih_13 =>
      intro H locs M_11 x5_9 x6_10 ls  hl hw hf
      rw [fX8_valueOf_L6] at hf
      refine lv_iload hx hb dX8_valueOf_6 (lv_at hl 6 rfl) ?_
      refine lv_aload_n hx hb dX8_valueOf_8 rfl (lv_at hl 0 rfl) ?_
      refine fg_X8_18 C hw ic0_1 dX8_valueOf_9 ?_
      refine lv_icmp_ge (tgt := 71) hx hb dX8_valueOf_12 (by decide) (fun q_14 => ?_) (fun q_14 => ?_)
      · have hf := x_iP hf q_14
        exact hk71_2 _ _ _ _ _ (lv_sub hl [0, 2, 5] rfl) hw hf
      · have hf := x_iN hf q_14
        refine lv_aload_n hx hb dX8_valueOf_15 rfl (lv_at hl 0 rfl) ?_
        refine fg_X8_35 (k2 := 20) C hw ic0_1 rfl dX8_valueOf_16 ?_
        refine lv_iload hx hb dX8_valueOf_19 (lv_at hl 6 rfl) ?_
        obtain ⟨q_15, hf⟩ := x_gE hf
        refine x_rld (t := 3) (k2 := (43 + x6_10.toNatClampNeg)) C hw ic0_20 (by decide) rfl q_15 (rr0_20 _) dX8_valueOf_21 ?_
        have h_16 : x_is 0 (43 + x6_10.toNatClampNeg) 1 := (rr0_20 x6_10.toNatClampNeg) ▸ x_ta ic0_20 (by decide) (x_ilt q_15)
        refine lv_iload_n hx hb dX8_valueOf_22 rfl (lv_at hl 1 rfl) ?_
        refine lv_iload_n hx hb dX8_valueOf_23 rfl (lv_at hl 2 rfl) ?_
        refine lv_iload_n hx hb dX8_valueOf_24 rfl (lv_at hl 3 rfl) ?_
        refine lv_iload hx hb dX8_valueOf_25 (lv_at hl 4 rfl) ?_
        obtain ⟨tv_19, tM_17, c_18, hf⟩ := x_bE hf
        refine x_vI C hw hl.1 [.int a1, .int a2, .int a3, .int a4] [] (mX1_tells l g h_16 c_18) lk_X8_113 h_16 (by decide) rfl (by decide) rfl (Nat.le_of_ble_eq_true rfl) ⟨Nat.zero_le _, Nat.zero_le _⟩ dX8_valueOf_27 (fun v_19 M_17 H locs hN hw => ?_)
        obtain ⟨rfl, rfl⟩ := hN
        obtain ⟨k65_21, ek65_21, hf⟩ := x_jE hf
        have hk65_21 : ∀ (H : Heap) (locs : List Loc) (M_22 : xM) (x5_20 : Int32) (ls : Array Slot) , lv_has ls 7 [(0, .ref (g.2.2.1 1)), (1, .int a1), (2, .int a2), (3, .int a3), (4, .int a4), (6, .int x6_10), (5, .int x5_20)] → x_w g 0 s H locs M_22 → k65_21 M_22 x5_20 = some (r, M') → W p l e (x_rm 1 24) s m args below meth c H locs 0 0 Q (F0 m 65 ls []) := by
          intro H locs M_22 x5_20 ls  hl hw hf
          rw [ek65_21] at hf
          obtain ⟨x6_23, ex6_23⟩ : ∃ z : Int32, z = (x6_10 + (1 : Int32)) := ⟨_, rfl⟩
          have hf := x_lE ex6_23 hf
          refine lv_iinc (v := x6_23) (lv' := [(6, .int x6_23), (0, .ref (g.2.2.1 1)), (1, .int a1), (2, .int a2), (3, .int a3), (4, .int a4), (5, .int x5_20)]) hx hb dX8_valueOf_65 hl (k := 5) rfl (by rw [ex6_23]; rfl) (by decide) rfl (fun ls hl => ?_)
          refine lv_goto (tgt := 6) hx hb dX8_valueOf_68 (by decide) ?_
          exact ih_13 _ _ _ _ _ _ (lv_sub hl [1, 2, 3, 4, 5, 6, 0] rfl) hw hf
        refine lv_if_ne (tgt := 36) hx hb dX8_valueOf_30 (by decide) (fun q_24 => ?_) (fun q_24 => ?_)
        · have hf := x_iN hf q_24
          refine lv_iload hx hb dX8_valueOf_36 (lv_at hl 5 rfl) ?_
          obtain ⟨k61_25, ek61_25, hf⟩ := x_jE hf
          have hk61_25 : ∀ (H : Heap) (locs : List Loc) (M_26 : xM)  (ls : Array Slot) , lv_has ls 7 [(0, .ref (g.2.2.1 1)), (1, .int a1), (2, .int a2), (3, .int a3), (4, .int a4), (6, .int x6_10)] → x_w g 0 s H locs M_26 → k61_25 M_26 = some (r, M') → W p l e (x_rm 1 24) s m args below meth c H locs 0 0 Q (F0 m 61 ls []) := by
            intro H locs M_26  ls  hl hw hf
            rw [ek61_25] at hf
            refine lv_iload hx hb dX8_valueOf_61 (lv_at hl 5 rfl) ?_
            refine lv_istore (lv' := [(5, .int x6_10), (0, .ref (g.2.2.1 1)), (1, .int a1), (2, .int a2), (3, .int a3), (4, .int a4), (6, .int x6_10)]) hx hb dX8_valueOf_63 hl (by decide) rfl (fun ls hl => ?_)
            exact hk65_21 _ _ _ _ _ (lv_sub hl [1, 2, 3, 4, 5, 6, 0] rfl) hw hf
          refine lv_if_lt (tgt := 61) hx hb dX8_valueOf_38 (by decide) (fun q_27 => ?_) (fun q_27 => ?_)
          · have hf := x_iP hf q_27
            exact hk61_25 _ _ _ _ (lv_sub hl [0, 1, 2, 3, 4, 6] rfl) hw hf
          · have hf := x_iN hf q_27
            refine lv_aload_n hx hb dX8_valueOf_41 rfl (lv_at hl 0 rfl) ?_
            refine fg_X8_35 (k2 := 20) C hw ic0_1 rfl dX8_valueOf_42 ?_
            refine lv_iload hx hb dX8_valueOf_45 (lv_at hl 6 rfl) ?_
            obtain ⟨q_28, hf⟩ := x_gE hf
            refine x_rld (t := 3) (k2 := (43 + x6_10.toNatClampNeg)) C hw ic0_20 (by decide) rfl q_28 (rr0_20 _) dX8_valueOf_47 ?_
            refine lv_aload_n hx hb dX8_valueOf_48 rfl (lv_at hl 0 rfl) ?_
            refine fg_X8_35 (k2 := 20) C hw ic0_1 rfl dX8_valueOf_49 ?_
            refine lv_iload hx hb dX8_valueOf_52 (lv_at hl 5 rfl) ?_
            obtain ⟨q_29, hf⟩ := x_gE hf
            refine x_rld (t := 3) (k2 := (43 + x5_9.toNatClampNeg)) C hw ic0_20 (by decide) rfl q_29 (rr0_20 _) dX8_valueOf_54 ?_
            have h_30 : x_is 0 (43 + x5_9.toNatClampNeg) 1 := (rr0_20 x5_9.toNatClampNeg) ▸ x_ta ic0_20 (by decide) (x_ilt q_29)
            obtain ⟨tv_33, tM_31, c_32, hf⟩ := x_bE hf
            refine x_vI C hw hl.1 [.ref (g.2.2.1 (43 + x5_9.toNatClampNeg))] [] (mX1_outdoes l g h_16 h_30 c_32) lk_X8_117 h_16 (by decide) rfl (by decide) rfl (Nat.le_of_ble_eq_true rfl) ⟨Nat.zero_le _, Nat.zero_le _⟩ dX8_valueOf_55 (fun v_33 M_31 H locs hN hw => ?_)
            obtain ⟨rfl, rfl⟩ := hN
            refine lv_if_eq (tgt := 65) hx hb dX8_valueOf_58 (by decide) (fun q_34 => ?_) (fun q_34 => ?_)
            · have hf := x_iP hf q_34
              exact hk65_21 _ _ _ _ _ (lv_sub hl [0, 1, 2, 3, 4, 6, 5] rfl) hw hf
            · have hf := x_iN hf q_34
              exact hk61_25 _ _ _ _ (lv_sub hl [0, 1, 2, 3, 4, 6] rfl) hw hf
        · have hf := x_iP hf q_24
          refine lv_goto (tgt := 65) hx hb dX8_valueOf_33 (by decide) ?_
          exact hk65_21 _ _ _ _ _ (lv_sub hl [0, 1, 2, 3, 4, 6, 5] rfl) hw hf
  exact hL_35 _ _ _ _ _ _ _ (lv_sub hl [2, 3, 4, 5, 6, 1, 0] rfl) hw hf
noncomputable def fX8_earningsAlone (M : xM) (a1 : Int32) (a2 : Int32) (a3 : Int32) : Option (Int32 × xM) := x_b (fX8_valueOf M a1 (0 : Int32) a2 a3) fun v_3 M_1 => x_g a1 12 (x_b (fX4_isOfKind M_1 (31 + a1.toNatClampNeg) (3 : Int32)) fun v_8 M_6 => if v_8 = 0 then (some (v_3, M_6)) else (x_b (fX8_valueOf M_6 a1 (2 : Int32) a2 a3) fun v_12 M_10 => some ((if v_3 < (v_12 / (24 : Int32)) then (v_12 / (24 : Int32)) else v_3), M_10)))
set_option maxRecDepth 100000 in
set_option maxHeartbeats 4000000 in
theorem mX8_earningsAlone (l : Launch) (g : xG) {a1 : Int32} {a2 : Int32} {a3 : Int32} {r : Int32} {M' : xM}  {M : xM} (hf : fX8_earningsAlone M a1 a2 a3 = some (r, M')) : x_cI l g 0 yX8_earningsAlone cX8_earningsAlone 5 .int 2 50 [.ref (g.2.2.1 1), .int a1, .int a2, .int a3] M (fun v N => v = r ∧ N = M') := by
  refine x_stI RX8 (by decide) rfl (Nat.le_of_ble_eq_true rfl) ?_
  intro p e s m args below meth c Q ls C hw ret hl
  obtain ⟨hx, hb, hml, hown, hB, -⟩ := id C
  have hl : lv_has ls 5 [(0, .ref (g.2.2.1 1)), (1, .int a1), (2, .int a2), (3, .int a3)] := hl
  unfold fX8_earningsAlone at hf
  refine lv_aload_n hx hb dX8_earningsAlone_0 rfl (lv_at hl 0 rfl) ?_
  refine lv_iload_n hx hb dX8_earningsAlone_1 rfl (lv_at hl 1 rfl) ?_
  refine lv_iconst (v := (0 : Int32)) hx hb dX8_earningsAlone_2 (by decide) ?_
  refine lv_iload_n hx hb dX8_earningsAlone_3 rfl (lv_at hl 2 rfl) ?_
  refine lv_iload_n hx hb dX8_earningsAlone_4 rfl (lv_at hl 3 rfl) ?_
  obtain ⟨tv_3, tM_1, c_2, hf⟩ := x_bE hf
  refine x_vI C hw hl.1 [.int a1, .int (0 : Int32), .int a2, .int a3] [] (mX8_valueOf l g c_2) lk_X8_135 ic0_1 (by decide) rfl (by decide) rfl (Nat.le_of_ble_eq_true rfl) ⟨Nat.zero_le _, Nat.zero_le _⟩ dX8_earningsAlone_5 (fun v_3 M_1 H locs hN hw => ?_)
  obtain ⟨rfl, rfl⟩ := hN
  refine lv_istore (lv' := [(4, .int v_3), (0, .ref (g.2.2.1 1)), (1, .int a1), (2, .int a2), (3, .int a3)]) hx hb dX8_earningsAlone_8 hl (by decide) rfl (fun ls hl => ?_)
  refine lv_aload_n hx hb dX8_earningsAlone_10 rfl (lv_at hl 1 rfl) ?_
  refine fg_X8_29 (k2 := 19) C hw ic0_1 rfl dX8_earningsAlone_11 ?_
  refine lv_iload_n hx hb dX8_earningsAlone_14 rfl (lv_at hl 2 rfl) ?_
  obtain ⟨q_4, hf⟩ := x_gE hf
  refine x_rld (t := 5) (k2 := (31 + a1.toNatClampNeg)) C hw ic0_19 (by decide) rfl q_4 (rr0_19 _) dX8_earningsAlone_15 ?_
  have h_5 : x_is 0 (31 + a1.toNatClampNeg) 4 := (rr0_19 a1.toNatClampNeg) ▸ x_ta ic0_19 (by decide) (x_ilt q_4)
  refine lv_iconst (v := (3 : Int32)) hx hb dX8_earningsAlone_16 (by decide) ?_
  obtain ⟨tv_8, tM_6, c_7, hf⟩ := x_bE hf
  refine x_vI C hw hl.1 [.int (3 : Int32)] [] (mX4_isOfKind l g h_5 c_7) lk_X8_139 h_5 (by decide) rfl (by decide) rfl (Nat.le_of_ble_eq_true rfl) ⟨Nat.zero_le _, Nat.zero_le _⟩ dX8_earningsAlone_17 (fun v_8 M_6 H locs hN hw => ?_)
  obtain ⟨rfl, rfl⟩ := hN
  refine lv_if_ne (tgt := 26) hx hb dX8_earningsAlone_20 (by decide) (fun q_9 => ?_) (fun q_9 => ?_)
  · have hf := x_iN hf q_9
    refine lv_iload hx hb dX8_earningsAlone_26 (lv_at hl 0 rfl) ?_
    refine lv_aload_n hx hb dX8_earningsAlone_28 rfl (lv_at hl 1 rfl) ?_
    refine lv_iload_n hx hb dX8_earningsAlone_29 rfl (lv_at hl 2 rfl) ?_
    refine lv_iconst (v := (2 : Int32)) hx hb dX8_earningsAlone_30 (by decide) ?_
    refine lv_iload_n hx hb dX8_earningsAlone_31 rfl (lv_at hl 3 rfl) ?_
    refine lv_iload_n hx hb dX8_earningsAlone_32 rfl (lv_at hl 4 rfl) ?_
    obtain ⟨tv_12, tM_10, c_11, hf⟩ := x_bE hf
    refine x_vI C hw hl.1 [.int a1, .int (2 : Int32), .int a2, .int a3] [.int v_3] (mX8_valueOf l g c_11) lk_X8_135 ic0_1 (by decide) rfl (by decide) rfl (Nat.le_of_ble_eq_true rfl) ⟨Nat.zero_le _, Nat.zero_le _⟩ dX8_earningsAlone_33 (fun v_12 M_10 H locs hN hw => ?_)
    obtain ⟨rfl, rfl⟩ := hN
    refine lv_bipush (v := (24 : Int32)) hx hb dX8_earningsAlone_36 (by decide) ?_
    refine lv_idiv hx hb dX8_earningsAlone_38 (by decide) ?_
    refine mm_X8_142 C hl.1 (Nat.le_of_ble_eq_true rfl) (Nat.le_of_ble_eq_true rfl) ⟨Nat.zero_le _, Nat.zero_le _⟩ dX8_earningsAlone_39 ?_
    exact ret hf dX8_earningsAlone_42 hw
  · have hf := x_iP hf q_9
    refine lv_iload hx hb dX8_earningsAlone_23 (lv_at hl 0 rfl) ?_
    exact ret hf dX8_earningsAlone_25 hw
noncomputable def fX10_isWithin (M : xM) (a1 : Int32) (a2 : Int32) (a3 : Int32) : Option (Int32 × xM) := x_l (fun (M_2 : xM) => some ((0 : Int32), M_2)) fun k14_1 => if a1 < a2 then (k14_1 M) else (if a3 < a1 then (k14_1 M) else (some ((1 : Int32), M)))
set_option maxRecDepth 100000 in
set_option maxHeartbeats 4000000 in
theorem mX10_isWithin (l : Launch) (g : xG) {a1 : Int32} {a2 : Int32} {a3 : Int32} {r : Int32} {M' : xM}  {M : xM} (hf : fX10_isWithin M a1 a2 a3 = some (r, M')) : x_cI l g 0 yX10_isWithin cX10_isWithin 3 .boolean 0 0 [.int a1, .int a2, .int a3] M (fun v N => v = r ∧ N = M') := by
  refine x_stZ RX10 (by decide) rfl (Nat.le_of_ble_eq_true rfl) ?_
  intro p e s m args below meth c Q ls C hw ret hl
  obtain ⟨hx, hb, hml, hown, hB, -⟩ := id C
  have hl : lv_has ls 3 [(0, .int a1), (1, .int a2), (2, .int a3)] := hl
  unfold fX10_isWithin at hf
  refine lv_iload_n hx hb dX10_isWithin_0 rfl (lv_at hl 0 rfl) ?_
  refine lv_iload_n hx hb dX10_isWithin_1 rfl (lv_at hl 1 rfl) ?_
  obtain ⟨k14_1, ek14_1, hf⟩ := x_jE hf
  have hk14_1 : ∀ (H : Heap) (locs : List Loc) (M_2 : xM)  (ls : Array Slot) , lv_has ls 3 [] → x_w g 0 s H locs M_2 → k14_1 M_2 = some (r, M') → W p l e (x_rm 0 0) s m args below meth c H locs 0 0 Q (F0 m 14 ls []) := by
    intro H locs M_2  ls  hl hw hf
    rw [ek14_1] at hf
    refine lv_iconst (v := (0 : Int32)) hx hb dX10_isWithin_14 (by decide) ?_
    exact ret ((x_zl0 _).trans hf) dX10_isWithin_15 hw
  refine lv_icmp_lt (tgt := 14) hx hb dX10_isWithin_2 (by decide) (fun q_3 => ?_) (fun q_3 => ?_)
  · have hf := x_iP hf q_3
    exact hk14_1 _ _ _ _ (lv_sub hl [] rfl) hw hf
  · have hf := x_iN hf q_3
    refine lv_iload_n hx hb dX10_isWithin_5 rfl (lv_at hl 0 rfl) ?_
    refine lv_iload_n hx hb dX10_isWithin_6 rfl (lv_at hl 2 rfl) ?_
    refine lv_icmp_gt (tgt := 14) hx hb dX10_isWithin_7 (by decide) (fun q_4 => ?_) (fun q_4 => ?_)
    · have hf := x_iP hf q_4
      exact hk14_1 _ _ _ _ (lv_sub hl [] rfl) hw hf
    · have hf := x_iN hf q_4
      refine lv_iconst (v := (1 : Int32)) hx hb dX10_isWithin_10 (by decide) ?_
      refine lv_goto (tgt := 15) hx hb dX10_isWithin_11 (by decide) ?_
      exact ret ((x_zl1 _).trans hf) dX10_isWithin_15 hw
noncomputable def fX8_hasPerson (M : xM) (a1 : Int32) : Option (Int32 × xM) := x_b (fX10_isWithin M a1 (0 : Int32) ((M 1 1) - (1 : Int32))) fun v_3 M_1 => x_z v_3 (some (v_3, M_1))
set_option maxRecDepth 100000 in
set_option maxHeartbeats 4000000 in
theorem mX8_hasPerson (l : Launch) (g : xG) {a1 : Int32} {r : Int32} {M' : xM}  {M : xM} (hf : fX8_hasPerson M a1 = some (r, M')) : x_cI l g 0 yX8_hasPerson cX8_hasPerson 2 .boolean 1 22 [.ref (g.2.2.1 1), .int a1] M (fun v N => v = r ∧ N = M') := by
  refine x_stZ RX8 (by decide) rfl (Nat.le_of_ble_eq_true rfl) ?_
  intro p e s m args below meth c Q ls C hw ret hl
  obtain ⟨hx, hb, hml, hown, hB, -⟩ := id C
  have hl : lv_has ls 2 [(0, .ref (g.2.2.1 1)), (1, .int a1)] := hl
  unfold fX8_hasPerson at hf
  refine lv_iload_n hx hb dX8_hasPerson_0 rfl (lv_at hl 1 rfl) ?_
  refine lv_iconst (v := (0 : Int32)) hx hb dX8_hasPerson_1 (by decide) ?_
  refine lv_aload_n hx hb dX8_hasPerson_2 rfl (lv_at hl 0 rfl) ?_
  refine fg_X8_15 C hw ic0_1 dX8_hasPerson_3 ?_
  refine lv_iconst (v := (1 : Int32)) hx hb dX8_hasPerson_6 (by decide) ?_
  refine lv_isub hx hb dX8_hasPerson_7 ?_
  obtain ⟨tv_3, tM_1, c_2, hf⟩ := x_bE hf
  refine x_nI C hw hl.1 [.int a1, .int (0 : Int32), .int ((M 1 1) - (1 : Int32))] [] (mX10_isWithin l g c_2) lk_X8_106 (by decide) rfl (Nat.le_of_ble_eq_true rfl) ⟨Nat.zero_le _, Nat.zero_le _⟩ dX8_hasPerson_8 (fun v_3 M_1 H locs hN hw => ?_)
  obtain ⟨rfl, rfl⟩ := hN
  exact ret hf dX8_hasPerson_11 hw
noncomputable def fX8_earnings (M : xM) (a1 : Int32) (a2 : Int32) (a3 : Int32) : Option (Int32 × xM) := x_b (fX8_earningsAlone M a1 a2 a3) fun v_3 M_1 => x_g a1 12 (x_l (M_1 (31 + a1.toNatClampNeg) 1) fun x5_6 => x_b (fX8_hasPerson M_1 x5_6) fun v_9 M_7 => if v_9 = 0 then (some (v_3, M_7)) else (x_b (fX8_earningsAlone M_7 x5_6 a2 a3) fun v_13 M_11 => some (((v_3 + v_13) / (2 : Int32)), M_11)))
set_option maxRecDepth 100000 in
set_option maxHeartbeats 4000000 in
theorem mX8_earnings (l : Launch) (g : xG) {a1 : Int32} {a2 : Int32} {a3 : Int32} {r : Int32} {M' : xM}  {M : xM} (hf : fX8_earnings M a1 a2 a3 = some (r, M')) : x_cI l g 0 yX8_earnings cX8_earnings 6 .int 3 74 [.ref (g.2.2.1 1), .int a1, .int a2, .int a3] M (fun v N => v = r ∧ N = M') := by
  refine x_stI RX8 (by decide) rfl (Nat.le_of_ble_eq_true rfl) ?_
  intro p e s m args below meth c Q ls C hw ret hl
  obtain ⟨hx, hb, hml, hown, hB, -⟩ := id C
  have hl : lv_has ls 6 [(0, .ref (g.2.2.1 1)), (1, .int a1), (2, .int a2), (3, .int a3)] := hl
  unfold fX8_earnings at hf
  refine lv_aload_n hx hb dX8_earnings_0 rfl (lv_at hl 0 rfl) ?_
  refine lv_iload_n hx hb dX8_earnings_1 rfl (lv_at hl 1 rfl) ?_
  refine lv_iload_n hx hb dX8_earnings_2 rfl (lv_at hl 2 rfl) ?_
  refine lv_iload_n hx hb dX8_earnings_3 rfl (lv_at hl 3 rfl) ?_
  obtain ⟨tv_3, tM_1, c_2, hf⟩ := x_bE hf
  refine x_vI C hw hl.1 [.int a1, .int a2, .int a3] [] (mX8_earningsAlone l g c_2) lk_X8_124 ic0_1 (by decide) rfl (by decide) rfl (Nat.le_of_ble_eq_true rfl) ⟨Nat.zero_le _, Nat.zero_le _⟩ dX8_earnings_4 (fun v_3 M_1 H locs hN hw => ?_)
  obtain ⟨rfl, rfl⟩ := hN
  refine lv_istore (lv' := [(4, .int v_3), (0, .ref (g.2.2.1 1)), (1, .int a1), (2, .int a2), (3, .int a3)]) hx hb dX8_earnings_7 hl (by decide) rfl (fun ls hl => ?_)
  refine lv_aload_n hx hb dX8_earnings_9 rfl (lv_at hl 1 rfl) ?_
  refine fg_X8_29 (k2 := 19) C hw ic0_1 rfl dX8_earnings_10 ?_
  refine lv_iload_n hx hb dX8_earnings_13 rfl (lv_at hl 2 rfl) ?_
  obtain ⟨q_4, hf⟩ := x_gE hf
  refine x_rld (t := 5) (k2 := (31 + a1.toNatClampNeg)) C hw ic0_19 (by decide) rfl q_4 (rr0_19 _) dX8_earnings_14 ?_
  have h_5 : x_is 0 (31 + a1.toNatClampNeg) 4 := (rr0_19 a1.toNatClampNeg) ▸ x_ta ic0_19 (by decide) (x_ilt q_4)
  refine fg_X8_128 C hw h_5 dX8_earnings_15 ?_
  refine lv_topi (fun x5_6 ex5_6 => ?_)
  have hf := x_lE ex5_6 hf
  refine lv_istore (lv' := [(5, .int x5_6), (4, .int v_3), (0, .ref (g.2.2.1 1)), (1, .int a1), (2, .int a2), (3, .int a3)]) hx hb dX8_earnings_18 hl (by decide) rfl (fun ls hl => ?_)
  refine lv_aload_n hx hb dX8_earnings_20 rfl (lv_at hl 2 rfl) ?_
  refine lv_iload hx hb dX8_earnings_21 (lv_at hl 0 rfl) ?_
  obtain ⟨tv_9, tM_7, c_8, hf⟩ := x_bE hf
  refine x_vI C hw hl.1 [.int x5_6] [] (mX8_hasPerson l g c_8) lk_X8_131 ic0_1 (by decide) rfl (by decide) rfl (Nat.le_of_ble_eq_true rfl) ⟨Nat.zero_le _, Nat.zero_le _⟩ dX8_earnings_23 (fun v_9 M_7 H locs hN hw => ?_)
  obtain ⟨rfl, rfl⟩ := hN
  refine lv_if_eq (tgt := 45) hx hb dX8_earnings_26 (by decide) (fun q_10 => ?_) (fun q_10 => ?_)
  · have hf := x_iP hf q_10
    refine lv_iload hx hb dX8_earnings_45 (lv_at hl 1 rfl) ?_
    exact ret hf dX8_earnings_47 hw
  · have hf := x_iN hf q_10
    refine lv_iload hx hb dX8_earnings_29 (lv_at hl 1 rfl) ?_
    refine lv_aload_n hx hb dX8_earnings_31 rfl (lv_at hl 2 rfl) ?_
    refine lv_iload hx hb dX8_earnings_32 (lv_at hl 0 rfl) ?_
    refine lv_iload_n hx hb dX8_earnings_34 rfl (lv_at hl 4 rfl) ?_
    refine lv_iload_n hx hb dX8_earnings_35 rfl (lv_at hl 5 rfl) ?_
    obtain ⟨tv_13, tM_11, c_12, hf⟩ := x_bE hf
    refine x_vI C hw hl.1 [.int x5_6, .int a2, .int a3] [.int v_3] (mX8_earningsAlone l g c_12) lk_X8_124 ic0_1 (by decide) rfl (by decide) rfl (Nat.le_of_ble_eq_true rfl) ⟨Nat.zero_le _, Nat.zero_le _⟩ dX8_earnings_36 (fun v_13 M_11 H locs hN hw => ?_)
    obtain ⟨rfl, rfl⟩ := hN
    refine lv_iadd hx hb dX8_earnings_39 ?_
    refine lv_iconst (v := (2 : Int32)) hx hb dX8_earnings_40 (by decide) ?_
    refine lv_idiv hx hb dX8_earnings_41 (by decide) ?_
    refine lv_goto (tgt := 47) hx hb dX8_earnings_42 (by decide) ?_
    exact ret hf dX8_earnings_47 hw
noncomputable def fX8_roomOf (M : xM) (a1 : Int32) (a2 : Int32) : Option (Int32 × xM) := x_l ((M 1 0) + ((30 : Int32) * a2)) fun x3_1 => x_b (fX8_valueOf M a1 (1 : Int32) x3_1 (M 1 0)) fun v_5 M_3 => x_l ((M 23 13) * ((1 : Int32) + v_5)) fun x4_6 => x_b (fX8_earnings M_3 a1 x3_1 (M_3 1 0)) fun v_9 M_7 => x_b (fX8_valueOf M_7 a1 (3 : Int32) x3_1 (M_7 1 0)) fun v_12 M_10 => x_l ((v_9 - x4_6) - v_12) fun x5_13 => some ((((if (0 : Int32) < x5_13 then x5_13 else (0 : Int32)) * (M_10 23 14)) / (100 : Int32)), M_10)
set_option maxRecDepth 100000 in
set_option maxHeartbeats 4000000 in
theorem mX8_roomOf (l : Launch) (g : xG) {a1 : Int32} {a2 : Int32} {r : Int32} {M' : xM}  {M : xM} (hf : fX8_roomOf M a1 a2 = some (r, M')) : x_cI l g 0 yX8_roomOf cX8_roomOf 6 .int 4 99 [.ref (g.2.2.1 1), .int a1, .int a2] M (fun v N => v = r ∧ N = M') := by
  refine x_stI RX8 (by decide) rfl (Nat.le_of_ble_eq_true rfl) ?_
  intro p e s m args below meth c Q ls C hw ret hl
  obtain ⟨hx, hb, hml, hown, hB, -⟩ := id C
  have hl : lv_has ls 6 [(0, .ref (g.2.2.1 1)), (1, .int a1), (2, .int a2)] := hl
  unfold fX8_roomOf at hf
  refine lv_aload_n hx hb dX8_roomOf_0 rfl (lv_at hl 0 rfl) ?_
  refine fg_X8_9 C hw ic0_1 dX8_roomOf_1 ?_
  refine lv_bipush (v := (30 : Int32)) hx hb dX8_roomOf_4 (by decide) ?_
  refine lv_iload_n hx hb dX8_roomOf_6 rfl (lv_at hl 2 rfl) ?_
  refine lv_imul hx hb dX8_roomOf_7 ?_
  refine lv_iadd hx hb dX8_roomOf_8 ?_
  refine lv_topi (fun x3_1 ex3_1 => ?_)
  have hf := x_lE ex3_1 hf
  refine lv_istore_n (lv' := [(3, .int x3_1), (0, .ref (g.2.2.1 1)), (1, .int a1), (2, .int a2)]) hx hb dX8_roomOf_9 rfl hl (by decide) rfl (fun ls hl => ?_)
  refine lv_aload_n hx hb dX8_roomOf_10 rfl (lv_at hl 1 rfl) ?_
  refine fg_X8_60 (k2 := 23) C hw ic0_1 rfl dX8_roomOf_11 ?_
  refine lv_bipush (v := (13 : Int32)) hx hb dX8_roomOf_14 (by decide) ?_
  refine x_ald (j := 13) C hw ic0_23 (x_inl rfl) rfl dX8_roomOf_16 ?_
  refine lv_iconst (v := (1 : Int32)) hx hb dX8_roomOf_17 (by decide) ?_
  refine lv_aload_n hx hb dX8_roomOf_18 rfl (lv_at hl 1 rfl) ?_
  refine lv_iload_n hx hb dX8_roomOf_19 rfl (lv_at hl 2 rfl) ?_
  refine lv_iconst (v := (1 : Int32)) hx hb dX8_roomOf_20 (by decide) ?_
  refine lv_iload_n hx hb dX8_roomOf_21 rfl (lv_at hl 0 rfl) ?_
  refine lv_aload_n hx hb dX8_roomOf_22 rfl (lv_at hl 1 rfl) ?_
  refine fg_X8_9 C hw ic0_1 dX8_roomOf_23 ?_
  obtain ⟨tv_5, tM_3, c_4, hf⟩ := x_bE hf
  refine x_vI C hw hl.1 [.int a1, .int (1 : Int32), .int x3_1, .int (M 1 0)] [.int (1 : Int32), .int (M 23 13)] (mX8_valueOf l g c_4) lk_X8_135 ic0_1 (by decide) rfl (by decide) rfl (Nat.le_of_ble_eq_true rfl) ⟨Nat.zero_le _, Nat.zero_le _⟩ dX8_roomOf_26 (fun v_5 M_3 H locs hN hw => ?_)
  obtain ⟨rfl, rfl⟩ := hN
  refine lv_iadd hx hb dX8_roomOf_29 ?_
  refine lv_imul hx hb dX8_roomOf_30 ?_
  refine lv_topi (fun x4_6 ex4_6 => ?_)
  have hf := x_lE ex4_6 hf
  refine lv_istore (lv' := [(4, .int x4_6), (3, .int x3_1), (0, .ref (g.2.2.1 1)), (1, .int a1), (2, .int a2)]) hx hb dX8_roomOf_31 hl (by decide) rfl (fun ls hl => ?_)
  refine lv_aload_n hx hb dX8_roomOf_33 rfl (lv_at hl 2 rfl) ?_
  refine lv_iload_n hx hb dX8_roomOf_34 rfl (lv_at hl 3 rfl) ?_
  refine lv_iload_n hx hb dX8_roomOf_35 rfl (lv_at hl 1 rfl) ?_
  refine lv_aload_n hx hb dX8_roomOf_36 rfl (lv_at hl 2 rfl) ?_
  refine fg_X8_9 C hw ic0_1 dX8_roomOf_37 ?_
  obtain ⟨tv_9, tM_7, c_8, hf⟩ := x_bE hf
  refine x_vI C hw hl.1 [.int a1, .int x3_1, .int (M_3 1 0)] [] (mX8_earnings l g c_8) lk_X8_202 ic0_1 (by decide) rfl (by decide) rfl (Nat.le_of_ble_eq_true rfl) ⟨Nat.zero_le _, Nat.zero_le _⟩ dX8_roomOf_40 (fun v_9 M_7 H locs hN hw => ?_)
  obtain ⟨rfl, rfl⟩ := hN
  refine lv_iload hx hb dX8_roomOf_43 (lv_at hl 0 rfl) ?_
  refine lv_isub hx hb dX8_roomOf_45 ?_
  refine lv_aload_n hx hb dX8_roomOf_46 rfl (lv_at hl 2 rfl) ?_
  refine lv_iload_n hx hb dX8_roomOf_47 rfl (lv_at hl 3 rfl) ?_
  refine lv_iconst (v := (3 : Int32)) hx hb dX8_roomOf_48 (by decide) ?_
  refine lv_iload_n hx hb dX8_roomOf_49 rfl (lv_at hl 1 rfl) ?_
  refine lv_aload_n hx hb dX8_roomOf_50 rfl (lv_at hl 2 rfl) ?_
  refine fg_X8_9 C hw ic0_1 dX8_roomOf_51 ?_
  obtain ⟨tv_12, tM_10, c_11, hf⟩ := x_bE hf
  refine x_vI C hw hl.1 [.int a1, .int (3 : Int32), .int x3_1, .int (M_7 1 0)] [.int (v_9 - x4_6)] (mX8_valueOf l g c_11) lk_X8_135 ic0_1 (by decide) rfl (by decide) rfl (Nat.le_of_ble_eq_true rfl) ⟨Nat.zero_le _, Nat.zero_le _⟩ dX8_roomOf_54 (fun v_12 M_10 H locs hN hw => ?_)
  obtain ⟨rfl, rfl⟩ := hN
  refine lv_isub hx hb dX8_roomOf_57 ?_
  refine lv_topi (fun x5_13 ex5_13 => ?_)
  have hf := x_lE ex5_13 hf
  refine lv_istore (lv' := [(5, .int x5_13), (4, .int x4_6), (3, .int x3_1), (0, .ref (g.2.2.1 1)), (1, .int a1), (2, .int a2)]) hx hb dX8_roomOf_58 hl (by decide) rfl (fun ls hl => ?_)
  refine lv_iconst (v := (0 : Int32)) hx hb dX8_roomOf_60 (by decide) ?_
  refine lv_iload hx hb dX8_roomOf_61 (lv_at hl 0 rfl) ?_
  refine mm_X8_142 C hl.1 (Nat.le_of_ble_eq_true rfl) (Nat.le_of_ble_eq_true rfl) ⟨Nat.zero_le _, Nat.zero_le _⟩ dX8_roomOf_63 ?_
  refine lv_aload_n hx hb dX8_roomOf_66 rfl (lv_at hl 3 rfl) ?_
  refine fg_X8_60 (k2 := 23) C hw ic0_1 rfl dX8_roomOf_67 ?_
  refine lv_bipush (v := (14 : Int32)) hx hb dX8_roomOf_70 (by decide) ?_
  refine x_ald (j := 14) C hw ic0_23 (x_inl rfl) rfl dX8_roomOf_72 ?_
  refine lv_imul hx hb dX8_roomOf_73 ?_
  refine lv_bipush (v := (100 : Int32)) hx hb dX8_roomOf_74 (by decide) ?_
  refine lv_idiv hx hb dX8_roomOf_76 (by decide) ?_
  exact ret hf dX8_roomOf_77 hw
noncomputable def fX5_holds_L69 (a3 : Int32) (x8_27 : Int32) (k113_30 : xM → Int32 → Int32 → Option (Int32 × xM)) : Nat → xM → Int32 → Int32 → Option (Int32 × xM)
  | 0, _, _, _ => none
  | n_36 + 1, M_35, x5_33, x6_34 => if (24 : Int32) ≤ x6_34 then (k113_30 M_35 x5_33 x6_34) else (if x8_27 < ((M_35 1 0) + ((30 : Int32) * x6_34)) then (k113_30 M_35 x5_33 x6_34) else (x_g x6_34 24 (x_l (x5_33 + (if a3 < (M_35 17 x6_34.toNatClampNeg) then a3 else (M_35 17 x6_34.toNatClampNeg))) fun x5_41 => x_l (x6_34 + (1 : Int32)) fun x6_42 => fX5_holds_L69 a3 x8_27 k113_30 n_36 M_35 x5_41 x6_42)))
noncomputable def fX5_holds_L12 (a2 : Int32) (a3 : Int32) : Nat → xM → Int32 → Int32 → Int32 → Int32 → Option (Int32 × xM)
  | 0, _, _, _, _, _ => none
  | n_6 + 1, M_5, x4_1, x5_2, x6_3, x7_4 => if (M_5 1 4) ≤ x7_4 then (some ((1 : Int32), M_5)) else (x_b (fX5_isOwing M_5 x7_4 a2) fun v_11 M_9 => x_l (fun (M_16 : xM) (x4_12 : Int32) (x5_13 : Int32) (x6_14 : Int32) => x_l (x7_4 + (1 : Int32)) fun x7_17 => fX5_holds_L12 a2 a3 n_6 M_16 x4_12 x5_13 x6_14 x7_17) fun k122_15 => if v_11 = 0 then (k122_15 M_9 x4_1 x5_2 x6_3) else (x_g x7_4 16 (x_b (fX2_unpaidCoins M_9 (169 + x7_4.toNatClampNeg)) fun v_23 M_21 => x_l (x4_1 + v_23) fun x4_24 => x_g x7_4 16 (x_l ((M_21 (169 + x7_4.toNatClampNeg) 1) + (M_21 23 12)) fun x8_27 => x_l (fun (M_31 : xM) (x5_28 : Int32) (x6_29 : Int32) => if x4_24 ≤ x5_28 then (k122_15 M_31 x4_24 x5_28 x6_29) else (some ((0 : Int32), M_31))) fun k113_30 => fX5_holds_L69 a3 x8_27 k113_30 x_FU M_21 x5_2 x6_3))))
noncomputable def fX5_holds (M : xM) (a2 : Int32) (a3 : Int32) : Option (Int32 × xM) := fX5_holds_L12 a2 a3 x_FU M (0 : Int32) (0 : Int32) (0 : Int32) (0 : Int32)
set_option maxRecDepth 100000 in
set_option maxHeartbeats 4000000 in
theorem mX5_holds (l : Launch) (g : xG) {a2 : Int32} {a3 : Int32} {r : Int32} {M' : xM}  {M : xM} (hf : fX5_holds M a2 a3 = some (r, M')) : x_cI l g 0 yX5_holds cX5_holds 9 .boolean 3 66 [.ref (g.2.2.1 4), .ref (g.2.2.1 1), .int a2, .int a3] M (fun v N => v = r ∧ N = M') := by
  refine x_stZ RX5 (by decide) rfl (Nat.le_of_ble_eq_true rfl) ?_
  intro p e s m args below meth c Q ls C hw ret hl
  obtain ⟨hx, hb, hml, hown, hB, -⟩ := id C
  have hl : lv_has ls 9 [(0, .ref (g.2.2.1 4)), (1, .ref (g.2.2.1 1)), (2, .int a2), (3, .int a3)] := hl
  unfold fX5_holds at hf
  refine lv_iconst (v := (0 : Int32)) hx hb dX5_holds_0 (by decide) ?_
  refine lv_istore (lv' := [(4, .int (0 : Int32)), (0, .ref (g.2.2.1 4)), (1, .ref (g.2.2.1 1)), (2, .int a2), (3, .int a3)]) hx hb dX5_holds_1 hl (by decide) rfl (fun ls hl => ?_)
  refine lv_iconst (v := (0 : Int32)) hx hb dX5_holds_3 (by decide) ?_
  refine lv_istore (lv' := [(5, .int (0 : Int32)), (4, .int (0 : Int32)), (0, .ref (g.2.2.1 4)), (1, .ref (g.2.2.1 1)), (2, .int a2), (3, .int a3)]) hx hb dX5_holds_4 hl (by decide) rfl (fun ls hl => ?_)
  refine lv_iconst (v := (0 : Int32)) hx hb dX5_holds_6 (by decide) ?_
  refine lv_istore (lv' := [(6, .int (0 : Int32)), (5, .int (0 : Int32)), (4, .int (0 : Int32)), (0, .ref (g.2.2.1 4)), (1, .ref (g.2.2.1 1)), (2, .int a2), (3, .int a3)]) hx hb dX5_holds_7 hl (by decide) rfl (fun ls hl => ?_)
  refine lv_iconst (v := (0 : Int32)) hx hb dX5_holds_9 (by decide) ?_
  refine lv_istore (lv' := [(7, .int (0 : Int32)), (6, .int (0 : Int32)), (5, .int (0 : Int32)), (4, .int (0 : Int32)), (0, .ref (g.2.2.1 4)), (1, .ref (g.2.2.1 1)), (2, .int a2), (3, .int a3)]) hx hb dX5_holds_10 hl (by decide) rfl (fun ls hl => ?_)
  have hL_44 : ∀ (n_6 : Nat) (H : Heap) (locs : List Loc) (M_5 : xM) (x4_1 : Int32) (x5_2 : Int32) (x6_3 : Int32) (x7_4 : Int32) (ls : Array Slot) , lv_has ls 9 [(0, .ref (g.2.2.1 4)), (1, .ref (g.2.2.1 1)), (2, .int a2), (3, .int a3), (4, .int x4_1), (5, .int x5_2), (6, .int x6_3), (7, .int x7_4)] → x_w g 0 s H locs M_5 → fX5_holds_L12 a2 a3 n_6 M_5 x4_1 x5_2 x6_3 x7_4 = some (r, M') → W p l e (x_rm 3 66) s m args below meth c H locs 0 0 Q (F0 m 12 ls []) := by
    intro n_6
    induction n_6 with
    | zero =>
      intro H locs M_5 x4_1 x5_2 x6_3 x7_4 ls  hl hw hf
      rw [fX5_holds_L12] at hf
      cases hf
    | succ n_6 ih_7 =>
      intro H locs M_5 x4_1 x5_2 x6_3 x7_4 ls  hl hw hf
      rw [fX5_holds_L12] at hf
      refine lv_iload hx hb dX5_holds_12 (lv_at hl 7 rfl) ?_
      refine lv_aload_n hx hb dX5_holds_14 rfl (lv_at hl 1 rfl) ?_
      refine fg_X5_68 C hw ic0_1 dX5_holds_15 ?_
      refine lv_icmp_ge (tgt := 128) hx hb dX5_holds_18 (by decide) (fun q_8 => ?_) (fun q_8 => ?_)
      · have hf := x_iP hf q_8
        refine lv_iconst (v := (1 : Int32)) hx hb dX5_holds_128 (by decide) ?_
        exact ret ((x_zl1 _).trans hf) dX5_holds_129 hw
      · have hf := x_iN hf q_8
        refine lv_aload_n hx hb dX5_holds_21 rfl (lv_at hl 1 rfl) ?_
        refine lv_iload hx hb dX5_holds_22 (lv_at hl 7 rfl) ?_
        refine lv_iload_n hx hb dX5_holds_24 rfl (lv_at hl 2 rfl) ?_
        obtain ⟨tv_11, tM_9, c_10, hf⟩ := x_bE hf
        refine x_sI C hw hl.1 [.ref (g.2.2.1 1), .int x7_4, .int a2] [] (mX5_isOwing l g c_10) lk_X5_71 (by decide) rfl (Nat.le_of_ble_eq_true rfl) ⟨Nat.zero_le _, Nat.zero_le _⟩ dX5_holds_25 (fun v_11 M_9 H locs hN hw => ?_)
        obtain ⟨rfl, rfl⟩ := hN
        obtain ⟨k122_15, ek122_15, hf⟩ := x_jE hf
        have hk122_15 : ∀ (H : Heap) (locs : List Loc) (M_16 : xM) (x4_12 : Int32) (x5_13 : Int32) (x6_14 : Int32) (ls : Array Slot) , lv_has ls 9 [(0, .ref (g.2.2.1 4)), (1, .ref (g.2.2.1 1)), (2, .int a2), (3, .int a3), (7, .int x7_4), (4, .int x4_12), (5, .int x5_13), (6, .int x6_14)] → x_w g 0 s H locs M_16 → k122_15 M_16 x4_12 x5_13 x6_14 = some (r, M') → W p l e (x_rm 3 66) s m args below meth c H locs 0 0 Q (F0 m 122 ls []) := by
          intro H locs M_16 x4_12 x5_13 x6_14 ls  hl hw hf
          rw [ek122_15] at hf
          obtain ⟨x7_17, ex7_17⟩ : ∃ z : Int32, z = (x7_4 + (1 : Int32)) := ⟨_, rfl⟩
          have hf := x_lE ex7_17 hf
          refine lv_iinc (v := x7_17) (lv' := [(7, .int x7_17), (0, .ref (g.2.2.1 4)), (1, .ref (g.2.2.1 1)), (2, .int a2), (3, .int a3), (4, .int x4_12), (5, .int x5_13), (6, .int x6_14)]) hx hb dX5_holds_122 hl (k := 4) rfl (by rw [ex7_17]; rfl) (by decide) rfl (fun ls hl => ?_)
          refine lv_goto (tgt := 12) hx hb dX5_holds_125 (by decide) ?_
          exact ih_7 _ _ _ _ _ _ _ _ (lv_sub hl [1, 2, 3, 4, 5, 6, 7, 0] rfl) hw hf
        refine lv_if_ne (tgt := 34) hx hb dX5_holds_28 (by decide) (fun q_18 => ?_) (fun q_18 => ?_)
        · have hf := x_iN hf q_18
          refine lv_iload hx hb dX5_holds_34 (lv_at hl 4 rfl) ?_
          refine lv_aload_n hx hb dX5_holds_36 rfl (lv_at hl 1 rfl) ?_
          refine fg_X5_52 (k2 := 22) C hw ic0_1 rfl dX5_holds_37 ?_
          refine lv_iload hx hb dX5_holds_40 (lv_at hl 7 rfl) ?_
          obtain ⟨q_19, hf⟩ := x_gE hf
          refine x_rld (t := 4) (k2 := (169 + x7_4.toNatClampNeg)) C hw ic0_22 (by decide) rfl q_19 (rr0_22 _) dX5_holds_42 ?_
          have h_20 : x_is 0 (169 + x7_4.toNatClampNeg) 2 := (rr0_22 x7_4.toNatClampNeg) ▸ x_ta ic0_22 (by decide) (x_ilt q_19)
          obtain ⟨tv_23, tM_21, c_22, hf⟩ := x_bE hf
          refine x_vI C hw hl.1 [] [.int x4_1] (mX2_unpaidCoins l g h_20 c_22) lk_X5_64 h_20 (by decide) rfl (by decide) rfl (Nat.le_of_ble_eq_true rfl) ⟨Nat.zero_le _, Nat.zero_le _⟩ dX5_holds_43 (fun v_23 M_21 H locs hN hw => ?_)
          obtain ⟨rfl, rfl⟩ := hN
          refine lv_iadd hx hb dX5_holds_46 ?_
          refine lv_topi (fun x4_24 ex4_24 => ?_)
          have hf := x_lE ex4_24 hf
          refine lv_istore (lv' := [(4, .int x4_24), (0, .ref (g.2.2.1 4)), (1, .ref (g.2.2.1 1)), (2, .int a2), (3, .int a3), (5, .int x5_2), (6, .int x6_3), (7, .int x7_4)]) hx hb dX5_holds_47 hl (by decide) rfl (fun ls hl => ?_)
          refine lv_aload_n hx hb dX5_holds_49 rfl (lv_at hl 2 rfl) ?_
          refine fg_X5_52 (k2 := 22) C hw ic0_1 rfl dX5_holds_50 ?_
          refine lv_iload hx hb dX5_holds_53 (lv_at hl 7 rfl) ?_
          obtain ⟨q_25, hf⟩ := x_gE hf
          refine x_rld (t := 4) (k2 := (169 + x7_4.toNatClampNeg)) C hw ic0_22 (by decide) rfl q_25 (rr0_22 _) dX5_holds_55 ?_
          refine fg_X5_74 C hw h_20 dX5_holds_56 ?_
          refine lv_aload_n hx hb dX5_holds_59 rfl (lv_at hl 2 rfl) ?_
          refine fg_X5_77 (k2 := 23) C hw ic0_1 rfl dX5_holds_60 ?_
          refine lv_bipush (v := (12 : Int32)) hx hb dX5_holds_63 (by decide) ?_
          refine x_ald (j := 12) C hw ic0_23 (x_inl rfl) rfl dX5_holds_65 ?_
          refine lv_iadd hx hb dX5_holds_66 ?_
          refine lv_topi (fun x8_27 ex8_27 => ?_)
          have hf := x_lE ex8_27 hf
          refine lv_istore (lv' := [(8, .int x8_27), (4, .int x4_24), (0, .ref (g.2.2.1 4)), (1, .ref (g.2.2.1 1)), (2, .int a2), (3, .int a3), (5, .int x5_2), (6, .int x6_3), (7, .int x7_4)]) hx hb dX5_holds_67 hl (by decide) rfl (fun ls hl => ?_)
          obtain ⟨k113_30, ek113_30, hf⟩ := x_jE hf
          have hk113_30 : ∀ (H : Heap) (locs : List Loc) (M_31 : xM) (x5_28 : Int32) (x6_29 : Int32) (ls : Array Slot) , lv_has ls 9 [(4, .int x4_24), (0, .ref (g.2.2.1 4)), (1, .ref (g.2.2.1 1)), (2, .int a2), (3, .int a3), (7, .int x7_4), (5, .int x5_28), (6, .int x6_29)] → x_w g 0 s H locs M_31 → k113_30 M_31 x5_28 x6_29 = some (r, M') → W p l e (x_rm 3 66) s m args below meth c H locs 0 0 Q (F0 m 113 ls []) := by
            intro H locs M_31 x5_28 x6_29 ls  hl hw hf
            rw [ek113_30] at hf
            refine lv_iload hx hb dX5_holds_113 (lv_at hl 6 rfl) ?_
            refine lv_iload hx hb dX5_holds_115 (lv_at hl 0 rfl) ?_
            refine lv_icmp_ge (tgt := 122) hx hb dX5_holds_117 (by decide) (fun q_32 => ?_) (fun q_32 => ?_)
            · have hf := x_iP hf q_32
              exact hk122_15 _ _ _ _ _ _ _ (lv_sub hl [1, 2, 3, 4, 5, 0, 6, 7] rfl) hw hf
            · have hf := x_iN hf q_32
              refine lv_iconst (v := (0 : Int32)) hx hb dX5_holds_120 (by decide) ?_
              exact ret ((x_zl0 _).trans hf) dX5_holds_121 hw
          have hL_43 : ∀ (n_36 : Nat) (H : Heap) (locs : List Loc) (M_35 : xM) (x5_33 : Int32) (x6_34 : Int32) (ls : Array Slot) , lv_has ls 9 [(8, .int x8_27), (4, .int x4_24), (0, .ref (g.2.2.1 4)), (1, .ref (g.2.2.1 1)), (2, .int a2), (3, .int a3), (7, .int x7_4), (5, .int x5_33), (6, .int x6_34)] → x_w g 0 s H locs M_35 → fX5_holds_L69 a3 x8_27 k113_30 n_36 M_35 x5_33 x6_34 = some (r, M') → W p l e (x_rm 3 66) s m args below meth c H locs 0 0 Q (F0 m 69 ls []) := by
            intro n_36
            induction n_36 with
            | zero =>
              intro H locs M_35 x5_33 x6_34 ls  hl hw hf
              rw [fX5_holds_L69] at hf
              cases hf
            | succ n_36 ih_37 =>
              intro H locs M_35 x5_33 x6_34 ls  hl hw hf
              rw [fX5_holds_L69] at hf
              refine lv_iload hx hb dX5_holds_69 (lv_at hl 8 rfl) ?_
              refine lv_bipush (v := (24 : Int32)) hx hb dX5_holds_71 (by decide) ?_
              refine lv_icmp_ge (tgt := 113) hx hb dX5_holds_73 (by decide) (fun q_38 => ?_) (fun q_38 => ?_)
              · have hf := x_iP hf q_38
                exact hk113_30 _ _ _ _ _ _ (lv_sub hl [1, 2, 3, 4, 5, 6, 7, 8] rfl) hw hf
              · have hf := x_iN hf q_38
                refine lv_aload_n hx hb dX5_holds_76 rfl (lv_at hl 3 rfl) ?_
                refine fg_X5_80 C hw ic0_1 dX5_holds_77 ?_
                refine lv_bipush (v := (30 : Int32)) hx hb dX5_holds_80 (by decide) ?_
                refine lv_iload hx hb dX5_holds_82 (lv_at hl 8 rfl) ?_
                refine lv_imul hx hb dX5_holds_84 ?_
                refine lv_iadd hx hb dX5_holds_85 ?_
                refine lv_iload hx hb dX5_holds_86 (lv_at hl 0 rfl) ?_
                refine lv_icmp_gt (tgt := 113) hx hb dX5_holds_88 (by decide) (fun q_39 => ?_) (fun q_39 => ?_)
                · have hf := x_iP hf q_39
                  exact hk113_30 _ _ _ _ _ _ (lv_sub hl [1, 2, 3, 4, 5, 6, 7, 8] rfl) hw hf
                · have hf := x_iN hf q_39
                  refine lv_iload hx hb dX5_holds_91 (lv_at hl 7 rfl) ?_
                  refine lv_aload_n hx hb dX5_holds_93 rfl (lv_at hl 2 rfl) ?_
                  refine fg_X5_9 (k2 := 17) C hw ic0_4 rfl dX5_holds_94 ?_
                  refine lv_iload hx hb dX5_holds_97 (lv_at hl 8 rfl) ?_
                  obtain ⟨q_40, hf⟩ := x_gE hf
                  refine x_ald C hw ic0_17 q_40 rfl dX5_holds_99 ?_
                  refine lv_iload_n hx hb dX5_holds_100 rfl (lv_at hl 5 rfl) ?_
                  refine mm_X5_83 C hl.1 (Nat.le_of_ble_eq_true rfl) (Nat.le_of_ble_eq_true rfl) ⟨Nat.zero_le _, Nat.zero_le _⟩ dX5_holds_101 ?_
                  refine lv_iadd hx hb dX5_holds_104 ?_
                  refine lv_topi (fun x5_41 ex5_41 => ?_)
                  have hf := x_lE ex5_41 hf
                  refine lv_istore (lv' := [(5, .int x5_41), (8, .int x8_27), (4, .int x4_24), (0, .ref (g.2.2.1 4)), (1, .ref (g.2.2.1 1)), (2, .int a2), (3, .int a3), (7, .int x7_4), (6, .int x6_34)]) hx hb dX5_holds_105 hl (by decide) rfl (fun ls hl => ?_)
                  obtain ⟨x6_42, ex6_42⟩ : ∃ z : Int32, z = (x6_34 + (1 : Int32)) := ⟨_, rfl⟩
                  have hf := x_lE ex6_42 hf
                  refine lv_iinc (v := x6_42) (lv' := [(6, .int x6_42), (5, .int x5_41), (8, .int x8_27), (4, .int x4_24), (0, .ref (g.2.2.1 4)), (1, .ref (g.2.2.1 1)), (2, .int a2), (3, .int a3), (7, .int x7_4)]) hx hb dX5_holds_107 hl (k := 8) rfl (by rw [ex6_42]; rfl) (by decide) rfl (fun ls hl => ?_)
                  refine lv_goto (tgt := 69) hx hb dX5_holds_110 (by decide) ?_
                  exact ih_37 _ _ _ _ _ _ (lv_sub hl [2, 3, 4, 5, 6, 7, 8, 1, 0] rfl) hw hf
          exact hL_43 _ _ _ _ _ _ _ (lv_sub hl [0, 1, 2, 3, 4, 5, 8, 6, 7] rfl) hw hf
        · have hf := x_iP hf q_18
          refine lv_goto (tgt := 122) hx hb dX5_holds_31 (by decide) ?_
          exact hk122_15 _ _ _ _ _ _ _ (lv_sub hl [0, 1, 2, 3, 7, 4, 5, 6] rfl) hw hf
  exact hL_44 _ _ _ _ _ _ _ _ _ (lv_sub hl [4, 5, 6, 7, 3, 2, 1, 0] rfl) hw hf
noncomputable def fX5_leastUpTo_L9 (a3 : Int32) : Nat → xM → Int32 → Int32 → Int32 → Option (Int32 × xM)
  | 0, _, _, _, _ => none
  | n_5 + 1, M_4, x4_1, x5_2, x6_3 => if (32 : Int32) ≤ x6_3 then (some (x5_2, M_4)) else (if (x5_2 - x4_1) ≤ (1 : Int32) then (some (x5_2, M_4)) else (x_l ((x4_1 + x5_2) / (2 : Int32)) fun x7_10 => x_b (fX5_holds M_4 a3 x7_10) fun v_13 M_11 => x_l (fun (M_17 : xM) (x4_14 : Int32) (x5_15 : Int32) => x_l (x6_3 + (1 : Int32)) fun x6_18 => fX5_leastUpTo_L9 a3 n_5 M_17 x4_14 x5_15 x6_18) fun k56_16 => if v_13 = 0 then (k56_16 M_11 x7_10 x5_2) else (k56_16 M_11 x4_1 x7_10)))
noncomputable def fX5_leastUpTo (M : xM) (a1 : Int32) (a3 : Int32) : Option (Int32 × xM) := fX5_leastUpTo_L9 a3 x_FU M (-1 : Int32) a1 (0 : Int32)
set_option maxRecDepth 100000 in
set_option maxHeartbeats 4000000 in
theorem mX5_leastUpTo (l : Launch) (g : xG) {a1 : Int32} {a3 : Int32} {r : Int32} {M' : xM}  {M : xM} (hf : fX5_leastUpTo M a1 a3 = some (r, M')) : x_cI l g 0 yX5_leastUpTo cX5_leastUpTo 8 .int 4 94 [.ref (g.2.2.1 4), .int a1, .ref (g.2.2.1 1), .int a3] M (fun v N => v = r ∧ N = M') := by
  refine x_stI RX5 (by decide) rfl (Nat.le_of_ble_eq_true rfl) ?_
  intro p e s m args below meth c Q ls C hw ret hl
  obtain ⟨hx, hb, hml, hown, hB, -⟩ := id C
  have hl : lv_has ls 8 [(0, .ref (g.2.2.1 4)), (1, .int a1), (2, .ref (g.2.2.1 1)), (3, .int a3)] := hl
  unfold fX5_leastUpTo at hf
  refine lv_iconst (v := (-1 : Int32)) hx hb dX5_leastUpTo_0 (by decide) ?_
  refine lv_istore (lv' := [(4, .int (-1 : Int32)), (0, .ref (g.2.2.1 4)), (1, .int a1), (2, .ref (g.2.2.1 1)), (3, .int a3)]) hx hb dX5_leastUpTo_1 hl (by decide) rfl (fun ls hl => ?_)
  refine lv_iload_n hx hb dX5_leastUpTo_3 rfl (lv_at hl 2 rfl) ?_
  refine lv_istore (lv' := [(5, .int a1), (4, .int (-1 : Int32)), (0, .ref (g.2.2.1 4)), (1, .int a1), (2, .ref (g.2.2.1 1)), (3, .int a3)]) hx hb dX5_leastUpTo_4 hl (by decide) rfl (fun ls hl => ?_)
  refine lv_iconst (v := (0 : Int32)) hx hb dX5_leastUpTo_6 (by decide) ?_
  refine lv_istore (lv' := [(6, .int (0 : Int32)), (5, .int a1), (4, .int (-1 : Int32)), (0, .ref (g.2.2.1 4)), (1, .int a1), (2, .ref (g.2.2.1 1)), (3, .int a3)]) hx hb dX5_leastUpTo_7 hl (by decide) rfl (fun ls hl => ?_)
  have hL_20 : ∀ (n_5 : Nat) (H : Heap) (locs : List Loc) (M_4 : xM) (x4_1 : Int32) (x5_2 : Int32) (x6_3 : Int32) (ls : Array Slot) , lv_has ls 8 [(0, .ref (g.2.2.1 4)), (2, .ref (g.2.2.1 1)), (3, .int a3), (4, .int x4_1), (5, .int x5_2), (6, .int x6_3)] → x_w g 0 s H locs M_4 → fX5_leastUpTo_L9 a3 n_5 M_4 x4_1 x5_2 x6_3 = some (r, M') → W p l e (x_rm 4 94) s m args below meth c H locs 0 0 Q (F0 m 9 ls []) := by
    intro n_5
    induction n_5 with
    | zero =>
      intro H locs M_4 x4_1 x5_2 x6_3 ls  hl hw hf
      rw [fX5_leastUpTo_L9] at hf
      cases hf
    | succ n_5 ih_6 =>
      intro H locs M_4 x4_1 x5_2 x6_3 ls  hl hw hf
      rw [fX5_leastUpTo_L9] at hf
      refine lv_iload hx hb dX5_leastUpTo_9 (lv_at hl 5 rfl) ?_
      refine lv_bipush (v := (32 : Int32)) hx hb dX5_leastUpTo_11 (by decide) ?_
      refine lv_icmp_ge (tgt := 62) hx hb dX5_leastUpTo_13 (by decide) (fun q_7 => ?_) (fun q_7 => ?_)
      · have hf := x_iP hf q_7
        refine lv_iload hx hb dX5_leastUpTo_62 (lv_at hl 4 rfl) ?_
        exact ret hf dX5_leastUpTo_64 hw
      · have hf := x_iN hf q_7
        refine lv_iload hx hb dX5_leastUpTo_16 (lv_at hl 4 rfl) ?_
        refine lv_iload hx hb dX5_leastUpTo_18 (lv_at hl 3 rfl) ?_
        refine lv_isub hx hb dX5_leastUpTo_20 ?_
        refine lv_iconst (v := (1 : Int32)) hx hb dX5_leastUpTo_21 (by decide) ?_
        refine lv_icmp_le (tgt := 62) hx hb dX5_leastUpTo_22 (by decide) (fun q_8 => ?_) (fun q_8 => ?_)
        · have hf := x_iP hf q_8
          refine lv_iload hx hb dX5_leastUpTo_62 (lv_at hl 4 rfl) ?_
          exact ret hf dX5_leastUpTo_64 hw
        · have hf := x_iN hf q_8
          refine lv_iload hx hb dX5_leastUpTo_25 (lv_at hl 3 rfl) ?_
          refine lv_iload hx hb dX5_leastUpTo_27 (lv_at hl 4 rfl) ?_
          refine lv_iadd hx hb dX5_leastUpTo_29 ?_
          refine lv_iconst (v := (2 : Int32)) hx hb dX5_leastUpTo_30 (by decide) ?_
          refine lv_idiv hx hb dX5_leastUpTo_31 (by decide) ?_
          refine lv_topi (fun x7_10 ex7_10 => ?_)
          have hf := x_lE ex7_10 hf
          refine lv_istore (lv' := [(7, .int x7_10), (0, .ref (g.2.2.1 4)), (2, .ref (g.2.2.1 1)), (3, .int a3), (4, .int x4_1), (5, .int x5_2), (6, .int x6_3)]) hx hb dX5_leastUpTo_32 hl (by decide) rfl (fun ls hl => ?_)
          refine lv_aload_n hx hb dX5_leastUpTo_34 rfl (lv_at hl 1 rfl) ?_
          refine lv_aload_n hx hb dX5_leastUpTo_35 rfl (lv_at hl 2 rfl) ?_
          refine lv_iload_n hx hb dX5_leastUpTo_36 rfl (lv_at hl 3 rfl) ?_
          refine lv_iload hx hb dX5_leastUpTo_37 (lv_at hl 0 rfl) ?_
          obtain ⟨tv_13, tM_11, c_12, hf⟩ := x_bE hf
          refine x_vI C hw hl.1 [.ref (g.2.2.1 1), .int a3, .int x7_10] [] (mX5_holds l g c_12) lk_X5_40 ic0_4 (by decide) rfl (by decide) rfl (Nat.le_of_ble_eq_true rfl) ⟨Nat.zero_le _, Nat.zero_le _⟩ dX5_leastUpTo_39 (fun v_13 M_11 H locs hN hw => ?_)
          obtain ⟨rfl, rfl⟩ := hN
          obtain ⟨k56_16, ek56_16, hf⟩ := x_jE hf
          have hk56_16 : ∀ (H : Heap) (locs : List Loc) (M_17 : xM) (x4_14 : Int32) (x5_15 : Int32) (ls : Array Slot) , lv_has ls 8 [(0, .ref (g.2.2.1 4)), (2, .ref (g.2.2.1 1)), (3, .int a3), (6, .int x6_3), (4, .int x4_14), (5, .int x5_15)] → x_w g 0 s H locs M_17 → k56_16 M_17 x4_14 x5_15 = some (r, M') → W p l e (x_rm 4 94) s m args below meth c H locs 0 0 Q (F0 m 56 ls []) := by
            intro H locs M_17 x4_14 x5_15 ls  hl hw hf
            rw [ek56_16] at hf
            obtain ⟨x6_18, ex6_18⟩ : ∃ z : Int32, z = (x6_3 + (1 : Int32)) := ⟨_, rfl⟩
            have hf := x_lE ex6_18 hf
            refine lv_iinc (v := x6_18) (lv' := [(6, .int x6_18), (0, .ref (g.2.2.1 4)), (2, .ref (g.2.2.1 1)), (3, .int a3), (4, .int x4_14), (5, .int x5_15)]) hx hb dX5_leastUpTo_56 hl (k := 3) rfl (by rw [ex6_18]; rfl) (by decide) rfl (fun ls hl => ?_)
            refine lv_goto (tgt := 9) hx hb dX5_leastUpTo_59 (by decide) ?_
            exact ih_6 _ _ _ _ _ _ _ (lv_sub hl [1, 2, 3, 4, 5, 0] rfl) hw hf
          refine lv_if_eq (tgt := 52) hx hb dX5_leastUpTo_42 (by decide) (fun q_19 => ?_) (fun q_19 => ?_)
          · have hf := x_iP hf q_19
            refine lv_iload hx hb dX5_leastUpTo_52 (lv_at hl 0 rfl) ?_
            refine lv_istore (lv' := [(4, .int x7_10), (7, .int x7_10), (0, .ref (g.2.2.1 4)), (2, .ref (g.2.2.1 1)), (3, .int a3), (5, .int x5_2), (6, .int x6_3)]) hx hb dX5_leastUpTo_54 hl (by decide) rfl (fun ls hl => ?_)
            exact hk56_16 _ _ _ _ _ _ (lv_sub hl [2, 3, 4, 6, 0, 5] rfl) hw hf
          · have hf := x_iN hf q_19
            refine lv_iload hx hb dX5_leastUpTo_45 (lv_at hl 0 rfl) ?_
            refine lv_istore (lv' := [(5, .int x7_10), (7, .int x7_10), (0, .ref (g.2.2.1 4)), (2, .ref (g.2.2.1 1)), (3, .int a3), (4, .int x4_1), (6, .int x6_3)]) hx hb dX5_leastUpTo_47 hl (by decide) rfl (fun ls hl => ?_)
            refine lv_goto (tgt := 56) hx hb dX5_leastUpTo_49 (by decide) ?_
            exact hk56_16 _ _ _ _ _ _ (lv_sub hl [2, 3, 4, 6, 5, 0] rfl) hw hf
  exact hL_20 _ _ _ _ _ _ _ _ (lv_sub hl [3, 5, 6, 2, 1, 0] rfl) hw hf
