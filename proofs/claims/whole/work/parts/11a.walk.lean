noncomputable def fX11_in (M : xM) (a1 : Int32) (a2 : Int32) (a3 : Int32) : Option (Int32 × xM) := x_l (fun (M_2 : xM) => some ((0 : Int32), M_2)) fun k14_1 => if a1 < a2 then (k14_1 M) else (if a3 < a1 then (k14_1 M) else (some ((1 : Int32), M)))
set_option maxRecDepth 100000 in
set_option maxHeartbeats 4000000 in
theorem mX11_in (l : Launch) (g : xG) {a1 : Int32} {a2 : Int32} {a3 : Int32} {r : Int32} {M' : xM}  {M : xM} (hf : fX11_in M a1 a2 a3 = some (r, M')) : x_cI l g 1 yX11_in cX11_in 3 .boolean 0 0 [.int a1, .int a2, .int a3] M (fun v N => v = r ∧ N = M') := by
  refine x_stZ RX11 (by decide) rfl (Nat.le_of_ble_eq_true rfl) ?_
  intro p e s m args below meth c Q ls C hw ret hl
  obtain ⟨hx, hb, hml, hown, hB, -⟩ := id C
  have hl : lv_has ls 3 [(0, .int a1), (1, .int a2), (2, .int a3)] := hl
  unfold fX11_in at hf
  refine lv_iload_n hx hb dX11_in_0 rfl (lv_at hl 0 rfl) ?_
  refine lv_iload_n hx hb dX11_in_1 rfl (lv_at hl 1 rfl) ?_
  obtain ⟨k14_1, ek14_1, hf⟩ := x_jE hf
  have hk14_1 : ∀ (H : Heap) (locs : List Loc) (M_2 : xM)  (ls : Array Slot) , lv_has ls 3 [] → x_w g 1 s H locs M_2 → k14_1 M_2 = some (r, M') → W p l e (x_rm 0 0) s m args below meth c H locs 0 0 Q (F0 m 14 ls []) := by
    intro H locs M_2  ls  hl hw hf
    rw [ek14_1] at hf
    refine lv_iconst (v := (0 : Int32)) hx hb dX11_in_14 (by decide) ?_
    exact ret ((x_zl0 _).trans hf) dX11_in_15 hw
  refine lv_icmp_lt (tgt := 14) hx hb dX11_in_2 (by decide) (fun q_3 => ?_) (fun q_3 => ?_)
  · have hf := x_iP hf q_3
    exact hk14_1 _ _ _ _ (lv_sub hl [] rfl) hw hf
  · have hf := x_iN hf q_3
    refine lv_iload_n hx hb dX11_in_5 rfl (lv_at hl 0 rfl) ?_
    refine lv_iload_n hx hb dX11_in_6 rfl (lv_at hl 2 rfl) ?_
    refine lv_icmp_gt (tgt := 14) hx hb dX11_in_7 (by decide) (fun q_4 => ?_) (fun q_4 => ?_)
    · have hf := x_iP hf q_4
      exact hk14_1 _ _ _ _ (lv_sub hl [] rfl) hw hf
    · have hf := x_iN hf q_4
      refine lv_iconst (v := (1 : Int32)) hx hb dX11_in_10 (by decide) ?_
      refine lv_goto (tgt := 15) hx hb dX11_in_11 (by decide) ?_
      exact ret ((x_zl1 _).trans hf) dX11_in_15 hw
noncomputable def fX11_less (M : xM) (a1 : Int32) (a2 : Int32) : Option (Int32 × xM) := if a2 ≤ a1 then (some (a2, M)) else (some (a1, M))
set_option maxRecDepth 100000 in
set_option maxHeartbeats 4000000 in
theorem mX11_less (l : Launch) (g : xG) {a1 : Int32} {a2 : Int32} {r : Int32} {M' : xM}  {M : xM} (hf : fX11_less M a1 a2 = some (r, M')) : x_cI l g 1 yX11_less cX11_less 2 .int 0 0 [.int a1, .int a2] M (fun v N => v = r ∧ N = M') := by
  refine x_stI RX11 (by decide) rfl (Nat.le_of_ble_eq_true rfl) ?_
  intro p e s m args below meth c Q ls C hw ret hl
  obtain ⟨hx, hb, hml, hown, hB, -⟩ := id C
  have hl : lv_has ls 2 [(0, .int a1), (1, .int a2)] := hl
  unfold fX11_less at hf
  refine lv_iload_n hx hb dX11_less_0 rfl (lv_at hl 0 rfl) ?_
  refine lv_iload_n hx hb dX11_less_1 rfl (lv_at hl 1 rfl) ?_
  refine lv_icmp_ge (tgt := 9) hx hb dX11_less_2 (by decide) (fun q_1 => ?_) (fun q_1 => ?_)
  · have hf := x_iP hf q_1
    refine lv_iload_n hx hb dX11_less_9 rfl (lv_at hl 1 rfl) ?_
    exact ret hf dX11_less_10 hw
  · have hf := x_iN hf q_1
    refine lv_iload_n hx hb dX11_less_5 rfl (lv_at hl 0 rfl) ?_
    refine lv_goto (tgt := 10) hx hb dX11_less_6 (by decide) ?_
    exact ret hf dX11_less_10 hw
noncomputable def fX11_more (M : xM) (a1 : Int32) (a2 : Int32) : Option (Int32 × xM) := if a1 ≤ a2 then (some (a2, M)) else (some (a1, M))
set_option maxRecDepth 100000 in
set_option maxHeartbeats 4000000 in
theorem mX11_more (l : Launch) (g : xG) {a1 : Int32} {a2 : Int32} {r : Int32} {M' : xM}  {M : xM} (hf : fX11_more M a1 a2 = some (r, M')) : x_cI l g 1 yX11_more cX11_more 2 .int 0 0 [.int a1, .int a2] M (fun v N => v = r ∧ N = M') := by
  refine x_stI RX11 (by decide) rfl (Nat.le_of_ble_eq_true rfl) ?_
  intro p e s m args below meth c Q ls C hw ret hl
  obtain ⟨hx, hb, hml, hown, hB, -⟩ := id C
  have hl : lv_has ls 2 [(0, .int a1), (1, .int a2)] := hl
  unfold fX11_more at hf
  refine lv_iload_n hx hb dX11_more_0 rfl (lv_at hl 0 rfl) ?_
  refine lv_iload_n hx hb dX11_more_1 rfl (lv_at hl 1 rfl) ?_
  refine lv_icmp_le (tgt := 9) hx hb dX11_more_2 (by decide) (fun q_1 => ?_) (fun q_1 => ?_)
  · have hf := x_iP hf q_1
    refine lv_iload_n hx hb dX11_more_9 rfl (lv_at hl 1 rfl) ?_
    exact ret hf dX11_more_10 hw
  · have hf := x_iN hf q_1
    refine lv_iload_n hx hb dX11_more_5 rfl (lv_at hl 0 rfl) ?_
    refine lv_goto (tgt := 10) hx hb dX11_more_6 (by decide) ?_
    exact ret hf dX11_more_10 hw
noncomputable def fX11_size (M : xM) (a1 : Int32) : Option (Int32 × xM) := if 0 ≤ a1 then (some (a1, M)) else (some ((-a1), M))
set_option maxRecDepth 100000 in
set_option maxHeartbeats 4000000 in
theorem mX11_size (l : Launch) (g : xG) {a1 : Int32} {r : Int32} {M' : xM}  {M : xM} (hf : fX11_size M a1 = some (r, M')) : x_cI l g 1 yX11_size cX11_size 1 .int 0 0 [.int a1] M (fun v N => v = r ∧ N = M') := by
  refine x_stI RX11 (by decide) rfl (Nat.le_of_ble_eq_true rfl) ?_
  intro p e s m args below meth c Q ls C hw ret hl
  obtain ⟨hx, hb, hml, hown, hB, -⟩ := id C
  have hl : lv_has ls 1 [(0, .int a1)] := hl
  unfold fX11_size at hf
  refine lv_iload_n hx hb dX11_size_0 rfl (lv_at hl 0 rfl) ?_
  refine lv_if_ge (tgt := 9) hx hb dX11_size_1 (by decide) (fun q_1 => ?_) (fun q_1 => ?_)
  · have hf := x_iP hf q_1
    refine lv_iload_n hx hb dX11_size_9 rfl (lv_at hl 0 rfl) ?_
    exact ret hf dX11_size_10 hw
  · have hf := x_iN hf q_1
    refine lv_iload_n hx hb dX11_size_4 rfl (lv_at hl 0 rfl) ?_
    refine lv_ineg hx hb dX11_size_5 ?_
    refine lv_goto (tgt := 10) hx hb dX11_size_6 (by decide) ?_
    exact ret hf dX11_size_10 hw
noncomputable def fX11_orNone (M : xM) (a1 : Int32) : Option (Int32 × xM) := if a1 = (-1 : Int32) then (some ((-1000000005 : Int32), M)) else (some (a1, M))
set_option maxRecDepth 100000 in
set_option maxHeartbeats 4000000 in
theorem mX11_orNone (l : Launch) (g : xG) {a1 : Int32} {r : Int32} {M' : xM}  {M : xM} (hf : fX11_orNone M a1 = some (r, M')) : x_cI l g 1 yX11_orNone cX11_orNone 1 .int 0 0 [.int a1] M (fun v N => v = r ∧ N = M') := by
  refine x_stI RX11 (by decide) rfl (Nat.le_of_ble_eq_true rfl) ?_
  intro p e s m args below meth c Q ls C hw ret hl
  obtain ⟨hx, hb, hml, hown, hB, -⟩ := id C
  have hl : lv_has ls 1 [(0, .int a1)] := hl
  unfold fX11_orNone at hf
  refine lv_iload_n hx hb dX11_orNone_0 rfl (lv_at hl 0 rfl) ?_
  refine lv_iconst (v := (-1 : Int32)) hx hb dX11_orNone_1 (by decide) ?_
  refine lv_icmp_ne (tgt := 10) hx hb dX11_orNone_2 (by decide) (fun q_1 => ?_) (fun q_1 => ?_)
  · have hf := x_iN hf q_1
    refine lv_iload_n hx hb dX11_orNone_10 rfl (lv_at hl 0 rfl) ?_
    exact ret hf dX11_orNone_11 hw
  · have hf := x_iP hf q_1
    refine lv_ldc hx hb hown (hB _ mk_X11_55) dX11_orNone_5 ?_
    refine lv_goto (tgt := 11) hx hb dX11_orNone_7 (by decide) ?_
    exact ret hf dX11_orNone_11 hw
noncomputable def fX11_isPerson (M : xM) (a1 : Int32) : Option (Int32 × xM) := x_b (fX11_in M a1 (0 : Int32) ((M 1 17) - (1 : Int32))) fun v_4 M_2 => x_z v_4 (some (v_4, M_2))
set_option maxRecDepth 100000 in
set_option maxHeartbeats 4000000 in
theorem mX11_isPerson (l : Launch) (g : xG) {a1 : Int32} {r : Int32} {M' : xM}  {M : xM} (hf : fX11_isPerson M a1 = some (r, M')) : x_cI l g 1 yX11_isPerson cX11_isPerson 2 .boolean 1 22 [.ref (g.2.2.1 0), .int a1] M (fun v N => v = r ∧ N = M') := by
  refine x_stZ RX11 (by decide) rfl (Nat.le_of_ble_eq_true rfl) ?_
  intro p e s m args below meth c Q ls C hw ret hl
  obtain ⟨hx, hb, hml, hown, hB, -⟩ := id C
  have hl : lv_has ls 2 [(0, .ref (g.2.2.1 0)), (1, .int a1)] := hl
  unfold fX11_isPerson at hf
  refine lv_iload_n hx hb dX11_isPerson_0 rfl (lv_at hl 1 rfl) ?_
  refine lv_iconst (v := (0 : Int32)) hx hb dX11_isPerson_1 (by decide) ?_
  refine lv_aload_n hx hb dX11_isPerson_2 rfl (lv_at hl 0 rfl) ?_
  refine fg_X11_7 (k2 := 1) C hw ic1_0 rfl dX11_isPerson_3 ?_
  refine lv_bipush (v := (17 : Int32)) hx hb dX11_isPerson_6 (by decide) ?_
  refine x_ald (j := 17) C hw ic1_1 (x_inl rfl) rfl dX11_isPerson_8 ?_
  refine lv_iconst (v := (1 : Int32)) hx hb dX11_isPerson_9 (by decide) ?_
  refine lv_isub hx hb dX11_isPerson_10 ?_
  obtain ⟨tv_4, tM_2, c_3, hf⟩ := x_bE hf
  refine x_sI C hw hl.1 [.int a1, .int (0 : Int32), .int ((M 1 17) - (1 : Int32))] [] (mX11_in l g c_3) lk_X11_56 (by decide) rfl (Nat.le_of_ble_eq_true rfl) ⟨Nat.zero_le _, Nat.zero_le _⟩ dX11_isPerson_11 (fun v_4 M_2 H locs hN hw => ?_)
  obtain ⟨rfl, rfl⟩ := hN
  exact ret hf dX11_isPerson_14 hw
noncomputable def fX11_isDeed (M : xM) (a1 : Int32) : Option (Int32 × xM) := x_b (fX11_in M a1 (0 : Int32) ((M 1 19) - (1 : Int32))) fun v_4 M_2 => x_z v_4 (some (v_4, M_2))
set_option maxRecDepth 100000 in
set_option maxHeartbeats 4000000 in
theorem mX11_isDeed (l : Launch) (g : xG) {a1 : Int32} {r : Int32} {M' : xM}  {M : xM} (hf : fX11_isDeed M a1 = some (r, M')) : x_cI l g 1 yX11_isDeed cX11_isDeed 2 .boolean 1 22 [.ref (g.2.2.1 0), .int a1] M (fun v N => v = r ∧ N = M') := by
  refine x_stZ RX11 (by decide) rfl (Nat.le_of_ble_eq_true rfl) ?_
  intro p e s m args below meth c Q ls C hw ret hl
  obtain ⟨hx, hb, hml, hown, hB, -⟩ := id C
  have hl : lv_has ls 2 [(0, .ref (g.2.2.1 0)), (1, .int a1)] := hl
  unfold fX11_isDeed at hf
  refine lv_iload_n hx hb dX11_isDeed_0 rfl (lv_at hl 1 rfl) ?_
  refine lv_iconst (v := (0 : Int32)) hx hb dX11_isDeed_1 (by decide) ?_
  refine lv_aload_n hx hb dX11_isDeed_2 rfl (lv_at hl 0 rfl) ?_
  refine fg_X11_7 (k2 := 1) C hw ic1_0 rfl dX11_isDeed_3 ?_
  refine lv_bipush (v := (19 : Int32)) hx hb dX11_isDeed_6 (by decide) ?_
  refine x_ald (j := 19) C hw ic1_1 (x_inl rfl) rfl dX11_isDeed_8 ?_
  refine lv_iconst (v := (1 : Int32)) hx hb dX11_isDeed_9 (by decide) ?_
  refine lv_isub hx hb dX11_isDeed_10 ?_
  obtain ⟨tv_4, tM_2, c_3, hf⟩ := x_bE hf
  refine x_sI C hw hl.1 [.int a1, .int (0 : Int32), .int ((M 1 19) - (1 : Int32))] [] (mX11_in l g c_3) lk_X11_56 (by decide) rfl (Nat.le_of_ble_eq_true rfl) ⟨Nat.zero_le _, Nat.zero_le _⟩ dX11_isDeed_11 (fun v_4 M_2 H locs hN hw => ?_)
  obtain ⟨rfl, rfl⟩ := hN
  exact ret hf dX11_isDeed_14 hw
noncomputable def fX11_isJudgment (M : xM) (a1 : Int32) : Option (Int32 × xM) := x_b (fX11_in M a1 (0 : Int32) ((M 1 20) - (1 : Int32))) fun v_4 M_2 => x_z v_4 (some (v_4, M_2))
set_option maxRecDepth 100000 in
set_option maxHeartbeats 4000000 in
theorem mX11_isJudgment (l : Launch) (g : xG) {a1 : Int32} {r : Int32} {M' : xM}  {M : xM} (hf : fX11_isJudgment M a1 = some (r, M')) : x_cI l g 1 yX11_isJudgment cX11_isJudgment 2 .boolean 1 22 [.ref (g.2.2.1 0), .int a1] M (fun v N => v = r ∧ N = M') := by
  refine x_stZ RX11 (by decide) rfl (Nat.le_of_ble_eq_true rfl) ?_
  intro p e s m args below meth c Q ls C hw ret hl
  obtain ⟨hx, hb, hml, hown, hB, -⟩ := id C
  have hl : lv_has ls 2 [(0, .ref (g.2.2.1 0)), (1, .int a1)] := hl
  unfold fX11_isJudgment at hf
  refine lv_iload_n hx hb dX11_isJudgment_0 rfl (lv_at hl 1 rfl) ?_
  refine lv_iconst (v := (0 : Int32)) hx hb dX11_isJudgment_1 (by decide) ?_
  refine lv_aload_n hx hb dX11_isJudgment_2 rfl (lv_at hl 0 rfl) ?_
  refine fg_X11_7 (k2 := 1) C hw ic1_0 rfl dX11_isJudgment_3 ?_
  refine lv_bipush (v := (20 : Int32)) hx hb dX11_isJudgment_6 (by decide) ?_
  refine x_ald (j := 20) C hw ic1_1 (x_inl rfl) rfl dX11_isJudgment_8 ?_
  refine lv_iconst (v := (1 : Int32)) hx hb dX11_isJudgment_9 (by decide) ?_
  refine lv_isub hx hb dX11_isJudgment_10 ?_
  obtain ⟨tv_4, tM_2, c_3, hf⟩ := x_bE hf
  refine x_sI C hw hl.1 [.int a1, .int (0 : Int32), .int ((M 1 20) - (1 : Int32))] [] (mX11_in l g c_3) lk_X11_56 (by decide) rfl (Nat.le_of_ble_eq_true rfl) ⟨Nat.zero_le _, Nat.zero_le _⟩ dX11_isJudgment_11 (fun v_4 M_2 H locs hN hw => ?_)
  obtain ⟨rfl, rfl⟩ := hN
  exact ret hf dX11_isJudgment_14 hw
noncomputable def fX11_person (M : xM) (a1 : Int32) : Option (Int32 × xM) := x_b (fX11_in M a1 (0 : Int32) (3 : Int32)) fun v_3 M_1 => if v_3 = 0 then (some ((-1000000001 : Int32), M_1)) else (if (M_1 1 17) = (12 : Int32) then (some ((-1000000003 : Int32), M_1)) else (x_l ((30 : Int32) + ((3 : Int32) * (M_1 1 17))) fun x2_8 => x_g x2_8 1675 (x_l (x_up M_1 1 x2_8.toNatClampNeg a1) fun M_10 => x_g (x2_8 + (1 : Int32)) 1675 (x_l (x_up M_10 1 (x2_8 + (1 : Int32)).toNatClampNeg (-1 : Int32)) fun M_12 => x_g (x2_8 + (2 : Int32)) 1675 (x_l (x_up M_12 1 (x2_8 + (2 : Int32)).toNatClampNeg (0 : Int32)) fun M_14 => x_l (x_up M_14 1 17 ((M_14 1 17) + (1 : Int32))) fun M_17 => some (((M_17 1 17) - (1 : Int32)), M_17))))))
set_option maxRecDepth 100000 in
set_option maxHeartbeats 4000000 in
theorem mX11_person (l : Launch) (g : xG) {a1 : Int32} {r : Int32} {M' : xM}  {M : xM} (hf : fX11_person M a1 = some (r, M')) : x_cI l g 1 yX11_person cX11_person 3 .int 1 22 [.ref (g.2.2.1 0), .int a1] M (fun v N => v = r ∧ N = M') := by
  refine x_stI RX11 (by decide) rfl (Nat.le_of_ble_eq_true rfl) ?_
  intro p e s m args below meth c Q ls C hw ret hl
  obtain ⟨hx, hb, hml, hown, hB, -⟩ := id C
  have hl : lv_has ls 3 [(0, .ref (g.2.2.1 0)), (1, .int a1)] := hl
  unfold fX11_person at hf
  refine lv_iload_n hx hb dX11_person_0 rfl (lv_at hl 1 rfl) ?_
  refine lv_iconst (v := (0 : Int32)) hx hb dX11_person_1 (by decide) ?_
  refine lv_iconst (v := (3 : Int32)) hx hb dX11_person_2 (by decide) ?_
  obtain ⟨tv_3, tM_1, c_2, hf⟩ := x_bE hf
  refine x_sI C hw hl.1 [.int a1, .int (0 : Int32), .int (3 : Int32)] [] (mX11_in l g c_2) lk_X11_56 (by decide) rfl (Nat.le_of_ble_eq_true rfl) ⟨Nat.zero_le _, Nat.zero_le _⟩ dX11_person_3 (fun v_3 M_1 H locs hN hw => ?_)
  obtain ⟨rfl, rfl⟩ := hN
  refine lv_if_ne (tgt := 12) hx hb dX11_person_6 (by decide) (fun q_4 => ?_) (fun q_4 => ?_)
  · have hf := x_iN hf q_4
    refine lv_aload_n hx hb dX11_person_12 rfl (lv_at hl 0 rfl) ?_
    refine fg_X11_7 (k2 := 1) C hw ic1_0 rfl dX11_person_13 ?_
    refine lv_bipush (v := (17 : Int32)) hx hb dX11_person_16 (by decide) ?_
    refine x_ald (j := 17) C hw ic1_1 (x_inl rfl) rfl dX11_person_18 ?_
    refine lv_bipush (v := (12 : Int32)) hx hb dX11_person_19 (by decide) ?_
    refine lv_icmp_ne (tgt := 27) hx hb dX11_person_21 (by decide) (fun q_6 => ?_) (fun q_6 => ?_)
    · have hf := x_iN hf q_6
      refine lv_bipush (v := (30 : Int32)) hx hb dX11_person_27 (by decide) ?_
      refine lv_iconst (v := (3 : Int32)) hx hb dX11_person_29 (by decide) ?_
      refine lv_aload_n hx hb dX11_person_30 rfl (lv_at hl 0 rfl) ?_
      refine fg_X11_7 (k2 := 1) C hw ic1_0 rfl dX11_person_31 ?_
      refine lv_bipush (v := (17 : Int32)) hx hb dX11_person_34 (by decide) ?_
      refine x_ald (j := 17) C hw ic1_1 (x_inl rfl) rfl dX11_person_36 ?_
      refine lv_imul hx hb dX11_person_37 ?_
      refine lv_iadd hx hb dX11_person_38 ?_
      refine lv_topi (fun x2_8 ex2_8 => ?_)
      have hf := x_lE ex2_8 hf
      refine lv_istore_n (lv' := [(2, .int x2_8), (0, .ref (g.2.2.1 0)), (1, .int a1)]) hx hb dX11_person_39 rfl hl (by decide) rfl (fun ls hl => ?_)
      refine lv_aload_n hx hb dX11_person_40 rfl (lv_at hl 1 rfl) ?_
      refine fg_X11_7 (k2 := 1) C hw ic1_0 rfl dX11_person_41 ?_
      refine lv_iload_n hx hb dX11_person_44 rfl (lv_at hl 0 rfl) ?_
      refine lv_iload_n hx hb dX11_person_45 rfl (lv_at hl 2 rfl) ?_
      obtain ⟨q_9, hf⟩ := x_gE hf
      refine x_ast C hw ic1_1 q_9 rfl dX11_person_46 (fun H locs hw => ?_)
      obtain ⟨M_10, eM_10⟩ : ∃ z, z = (x_up M_1 1 x2_8.toNatClampNeg a1) := ⟨_, rfl⟩
      rw [← eM_10] at hw
      have hf := x_lE eM_10 hf
      refine lv_aload_n hx hb dX11_person_47 rfl (lv_at hl 1 rfl) ?_
      refine fg_X11_7 (k2 := 1) C hw ic1_0 rfl dX11_person_48 ?_
      refine lv_iload_n hx hb dX11_person_51 rfl (lv_at hl 0 rfl) ?_
      refine lv_iconst (v := (1 : Int32)) hx hb dX11_person_52 (by decide) ?_
      refine lv_iadd hx hb dX11_person_53 ?_
      refine lv_iconst (v := (-1 : Int32)) hx hb dX11_person_54 (by decide) ?_
      obtain ⟨q_11, hf⟩ := x_gE hf
      refine x_ast C hw ic1_1 q_11 rfl dX11_person_55 (fun H locs hw => ?_)
      obtain ⟨M_12, eM_12⟩ : ∃ z, z = (x_up M_10 1 (x2_8 + (1 : Int32)).toNatClampNeg (-1 : Int32)) := ⟨_, rfl⟩
      rw [← eM_12] at hw
      have hf := x_lE eM_12 hf
      refine lv_aload_n hx hb dX11_person_56 rfl (lv_at hl 1 rfl) ?_
      refine fg_X11_7 (k2 := 1) C hw ic1_0 rfl dX11_person_57 ?_
      refine lv_iload_n hx hb dX11_person_60 rfl (lv_at hl 0 rfl) ?_
      refine lv_iconst (v := (2 : Int32)) hx hb dX11_person_61 (by decide) ?_
      refine lv_iadd hx hb dX11_person_62 ?_
      refine lv_iconst (v := (0 : Int32)) hx hb dX11_person_63 (by decide) ?_
      obtain ⟨q_13, hf⟩ := x_gE hf
      refine x_ast C hw ic1_1 q_13 rfl dX11_person_64 (fun H locs hw => ?_)
      obtain ⟨M_14, eM_14⟩ : ∃ z, z = (x_up M_12 1 (x2_8 + (2 : Int32)).toNatClampNeg (0 : Int32)) := ⟨_, rfl⟩
      rw [← eM_14] at hw
      have hf := x_lE eM_14 hf
      refine lv_aload_n hx hb dX11_person_65 rfl (lv_at hl 1 rfl) ?_
      refine fg_X11_7 (k2 := 1) C hw ic1_0 rfl dX11_person_66 ?_
      refine lv_bipush (v := (17 : Int32)) hx hb dX11_person_69 (by decide) ?_
      refine lv_dup2_11 hx hb dX11_person_71 rfl rfl ?_
      refine x_ald (j := 17) C hw ic1_1 (x_inl rfl) rfl dX11_person_72 ?_
      refine lv_iconst (v := (1 : Int32)) hx hb dX11_person_73 (by decide) ?_
      refine lv_iadd hx hb dX11_person_74 ?_
      refine x_ast (j := 17) C hw ic1_1 (x_inl rfl) rfl dX11_person_75 (fun H locs hw => ?_)
      obtain ⟨M_17, eM_17⟩ : ∃ z, z = (x_up M_14 1 17 ((M_14 1 17) + (1 : Int32))) := ⟨_, rfl⟩
      rw [← eM_17] at hw
      have hf := x_lE eM_17 hf
      refine lv_aload_n hx hb dX11_person_76 rfl (lv_at hl 1 rfl) ?_
      refine fg_X11_7 (k2 := 1) C hw ic1_0 rfl dX11_person_77 ?_
      refine lv_bipush (v := (17 : Int32)) hx hb dX11_person_80 (by decide) ?_
      refine x_ald (j := 17) C hw ic1_1 (x_inl rfl) rfl dX11_person_82 ?_
      refine lv_iconst (v := (1 : Int32)) hx hb dX11_person_83 (by decide) ?_
      refine lv_isub hx hb dX11_person_84 ?_
      exact ret hf dX11_person_85 hw
    · have hf := x_iP hf q_6
      refine lv_ldc hx hb hown (hB _ mk_X11_61) dX11_person_24 ?_
      exact ret hf dX11_person_26 hw
  · have hf := x_iP hf q_4
    refine lv_ldc hx hb hown (hB _ mk_X11_60) dX11_person_9 ?_
    exact ret hf dX11_person_11 hw
noncomputable def fX11_isYoung (M : xM) (a1 : Int32) : Option (Int32 × xM) := x_g ((30 : Int32) + ((3 : Int32) * a1)) 1675 (x_b (fX11_in M (M 1 ((30 : Int32) + ((3 : Int32) * a1)).toNatClampNeg) (1 : Int32) (2 : Int32)) fun v_4 M_2 => x_z v_4 (some (v_4, M_2)))
set_option maxRecDepth 100000 in
set_option maxHeartbeats 4000000 in
theorem mX11_isYoung (l : Launch) (g : xG) {a1 : Int32} {r : Int32} {M' : xM}  {M : xM} (hf : fX11_isYoung M a1 = some (r, M')) : x_cI l g 1 yX11_isYoung cX11_isYoung 2 .boolean 1 22 [.ref (g.2.2.1 0), .int a1] M (fun v N => v = r ∧ N = M') := by
  refine x_stZ RX11 (by decide) rfl (Nat.le_of_ble_eq_true rfl) ?_
  intro p e s m args below meth c Q ls C hw ret hl
  obtain ⟨hx, hb, hml, hown, hB, -⟩ := id C
  have hl : lv_has ls 2 [(0, .ref (g.2.2.1 0)), (1, .int a1)] := hl
  unfold fX11_isYoung at hf
  refine lv_aload_n hx hb dX11_isYoung_0 rfl (lv_at hl 0 rfl) ?_
  refine fg_X11_7 (k2 := 1) C hw ic1_0 rfl dX11_isYoung_1 ?_
  refine lv_bipush (v := (30 : Int32)) hx hb dX11_isYoung_4 (by decide) ?_
  refine lv_iconst (v := (3 : Int32)) hx hb dX11_isYoung_6 (by decide) ?_
  refine lv_iload_n hx hb dX11_isYoung_7 rfl (lv_at hl 1 rfl) ?_
  refine lv_imul hx hb dX11_isYoung_8 ?_
  refine lv_iadd hx hb dX11_isYoung_9 ?_
  obtain ⟨q_1, hf⟩ := x_gE hf
  refine x_ald C hw ic1_1 q_1 rfl dX11_isYoung_10 ?_
  refine lv_iconst (v := (1 : Int32)) hx hb dX11_isYoung_11 (by decide) ?_
  refine lv_iconst (v := (2 : Int32)) hx hb dX11_isYoung_12 (by decide) ?_
  obtain ⟨tv_4, tM_2, c_3, hf⟩ := x_bE hf
  refine x_sI C hw hl.1 [.int (M 1 ((30 : Int32) + ((3 : Int32) * a1)).toNatClampNeg), .int (1 : Int32), .int (2 : Int32)] [] (mX11_in l g c_3) lk_X11_56 (by decide) rfl (Nat.le_of_ble_eq_true rfl) ⟨Nat.zero_le _, Nat.zero_le _⟩ dX11_isYoung_13 (fun v_4 M_2 H locs hN hw => ?_)
  obtain ⟨rfl, rfl⟩ := hN
  exact ret hf dX11_isYoung_16 hw
noncomputable def fX11_is (M : xM) (a1 : Int32) (a2 : Int32) : Option (Int32 × xM) := x_b (fX11_isPerson M a1) fun v_3 M_1 => if v_3 = 0 then (some ((-1000000001 : Int32), M_1)) else (x_b (fX11_in M_1 a2 (0 : Int32) (3 : Int32)) fun v_7 M_5 => if v_7 = 0 then (some ((-1000000001 : Int32), M_5)) else (x_l (fun (M_10 : xM) => some ((1 : Int32), M_10)) fun k52_9 => if a2 = 0 then (k52_9 M_5) else (x_g ((30 : Int32) + ((3 : Int32) * a1)) 1675 (if (M_5 1 ((30 : Int32) + ((3 : Int32) * a1)).toNatClampNeg) = a2 then (k52_9 M_5) else (x_l (fun (M_15 : xM) => some ((0 : Int32), M_15)) fun k56_14 => if a2 = (1 : Int32) then (x_b (fX11_isYoung M_5 a1) fun v_19 M_17 => if v_19 = 0 then (k56_14 M_17) else (k52_9 M_17)) else (k56_14 M_5))))))
set_option maxRecDepth 100000 in
set_option maxHeartbeats 4000000 in
theorem mX11_is (l : Launch) (g : xG) {a1 : Int32} {a2 : Int32} {r : Int32} {M' : xM}  {M : xM} (hf : fX11_is M a1 a2 = some (r, M')) : x_cI l g 1 yX11_is cX11_is 3 .int 2 43 [.ref (g.2.2.1 0), .int a1, .int a2] M (fun v N => v = r ∧ N = M') := by
  refine x_stI RX11 (by decide) rfl (Nat.le_of_ble_eq_true rfl) ?_
  intro p e s m args below meth c Q ls C hw ret hl
  obtain ⟨hx, hb, hml, hown, hB, -⟩ := id C
  have hl : lv_has ls 3 [(0, .ref (g.2.2.1 0)), (1, .int a1), (2, .int a2)] := hl
  unfold fX11_is at hf
  refine lv_aload_n hx hb dX11_is_0 rfl (lv_at hl 0 rfl) ?_
  refine lv_iload_n hx hb dX11_is_1 rfl (lv_at hl 1 rfl) ?_
  obtain ⟨tv_3, tM_1, c_2, hf⟩ := x_bE hf
  refine x_vI C hw hl.1 [.int a1] [] (mX11_isPerson l g c_2) lk_X11_62 ic1_0 (by decide) rfl (by decide) rfl (Nat.le_of_ble_eq_true rfl) ⟨Nat.zero_le _, Nat.zero_le _⟩ dX11_is_2 (fun v_3 M_1 H locs hN hw => ?_)
  obtain ⟨rfl, rfl⟩ := hN
  refine lv_if_eq (tgt := 17) hx hb dX11_is_5 (by decide) (fun q_4 => ?_) (fun q_4 => ?_)
  · have hf := x_iP hf q_4
    refine lv_ldc hx hb hown (hB _ mk_X11_60) dX11_is_17 ?_
    exact ret hf dX11_is_19 hw
  · have hf := x_iN hf q_4
    refine lv_iload_n hx hb dX11_is_8 rfl (lv_at hl 2 rfl) ?_
    refine lv_iconst (v := (0 : Int32)) hx hb dX11_is_9 (by decide) ?_
    refine lv_iconst (v := (3 : Int32)) hx hb dX11_is_10 (by decide) ?_
    obtain ⟨tv_7, tM_5, c_6, hf⟩ := x_bE hf
    refine x_sI C hw hl.1 [.int a2, .int (0 : Int32), .int (3 : Int32)] [] (mX11_in l g c_6) lk_X11_56 (by decide) rfl (Nat.le_of_ble_eq_true rfl) ⟨Nat.zero_le _, Nat.zero_le _⟩ dX11_is_11 (fun v_7 M_5 H locs hN hw => ?_)
    obtain ⟨rfl, rfl⟩ := hN
    refine lv_if_ne (tgt := 20) hx hb dX11_is_14 (by decide) (fun q_8 => ?_) (fun q_8 => ?_)
    · have hf := x_iN hf q_8
      refine lv_iload_n hx hb dX11_is_20 rfl (lv_at hl 2 rfl) ?_
      obtain ⟨k52_9, ek52_9, hf⟩ := x_jE hf
      have hk52_9 : ∀ (H : Heap) (locs : List Loc) (M_10 : xM)  (ls : Array Slot) , lv_has ls 3 [] → x_w g 1 s H locs M_10 → k52_9 M_10 = some (r, M') → W p l e (x_rm 2 43) s m args below meth c H locs 0 0 Q (F0 m 52 ls []) := by
        intro H locs M_10  ls  hl hw hf
        rw [ek52_9] at hf
        refine lv_iconst (v := (1 : Int32)) hx hb dX11_is_52 (by decide) ?_
        refine lv_goto (tgt := 57) hx hb dX11_is_53 (by decide) ?_
        exact ret hf dX11_is_57 hw
      refine lv_if_eq (tgt := 52) hx hb dX11_is_21 (by decide) (fun q_11 => ?_) (fun q_11 => ?_)
      · have hf := x_iP hf q_11
        exact hk52_9 _ _ _ _ (lv_sub hl [] rfl) hw hf
      · have hf := x_iN hf q_11
        refine lv_aload_n hx hb dX11_is_24 rfl (lv_at hl 0 rfl) ?_
        refine fg_X11_7 (k2 := 1) C hw ic1_0 rfl dX11_is_25 ?_
        refine lv_bipush (v := (30 : Int32)) hx hb dX11_is_28 (by decide) ?_
        refine lv_iconst (v := (3 : Int32)) hx hb dX11_is_30 (by decide) ?_
        refine lv_iload_n hx hb dX11_is_31 rfl (lv_at hl 1 rfl) ?_
        refine lv_imul hx hb dX11_is_32 ?_
        refine lv_iadd hx hb dX11_is_33 ?_
        obtain ⟨q_12, hf⟩ := x_gE hf
        refine x_ald C hw ic1_1 q_12 rfl dX11_is_34 ?_
        refine lv_iload_n hx hb dX11_is_35 rfl (lv_at hl 2 rfl) ?_
        refine lv_icmp_eq (tgt := 52) hx hb dX11_is_36 (by decide) (fun q_13 => ?_) (fun q_13 => ?_)
        · have hf := x_iP hf q_13
          exact hk52_9 _ _ _ _ (lv_sub hl [] rfl) hw hf
        · have hf := x_iN hf q_13
          refine lv_iload_n hx hb dX11_is_39 rfl (lv_at hl 2 rfl) ?_
          refine lv_iconst (v := (1 : Int32)) hx hb dX11_is_40 (by decide) ?_
          obtain ⟨k56_14, ek56_14, hf⟩ := x_jE hf
          have hk56_14 : ∀ (H : Heap) (locs : List Loc) (M_15 : xM)  (ls : Array Slot) , lv_has ls 3 [] → x_w g 1 s H locs M_15 → k56_14 M_15 = some (r, M') → W p l e (x_rm 2 43) s m args below meth c H locs 0 0 Q (F0 m 56 ls []) := by
            intro H locs M_15  ls  hl hw hf
            rw [ek56_14] at hf
            refine lv_iconst (v := (0 : Int32)) hx hb dX11_is_56 (by decide) ?_
            exact ret hf dX11_is_57 hw
          refine lv_icmp_ne (tgt := 56) hx hb dX11_is_41 (by decide) (fun q_16 => ?_) (fun q_16 => ?_)
          · have hf := x_iN hf q_16
            exact hk56_14 _ _ _ _ (lv_sub hl [] rfl) hw hf
          · have hf := x_iP hf q_16
            refine lv_aload_n hx hb dX11_is_44 rfl (lv_at hl 0 rfl) ?_
            refine lv_iload_n hx hb dX11_is_45 rfl (lv_at hl 1 rfl) ?_
            obtain ⟨tv_19, tM_17, c_18, hf⟩ := x_bE hf
            refine x_vI C hw hl.1 [.int a1] [] (mX11_isYoung l g c_18) lk_X11_66 ic1_0 (by decide) rfl (by decide) rfl (Nat.le_of_ble_eq_true rfl) ⟨Nat.zero_le _, Nat.zero_le _⟩ dX11_is_46 (fun v_19 M_17 H locs hN hw => ?_)
            obtain ⟨rfl, rfl⟩ := hN
            refine lv_if_eq (tgt := 56) hx hb dX11_is_49 (by decide) (fun q_20 => ?_) (fun q_20 => ?_)
            · have hf := x_iP hf q_20
              exact hk56_14 _ _ _ _ (lv_sub hl [] rfl) hw hf
            · have hf := x_iN hf q_20
              exact hk52_9 _ _ _ _ (lv_sub hl [] rfl) hw hf
    · have hf := x_iP hf q_8
      refine lv_ldc hx hb hown (hB _ mk_X11_60) dX11_is_17 ?_
      exact ret hf dX11_is_19 hw
noncomputable def fX11_couple (M : xM) (a1 : Int32) (a2 : Int32) : Option (Int32 × xM) := x_b (fX11_isPerson M a1) fun v_3 M_1 => if v_3 = 0 then (some ((-1000000001 : Int32), M_1)) else (x_b (fX11_isPerson M_1 a2) fun v_7 M_5 => if v_7 = 0 then (some ((-1000000001 : Int32), M_5)) else (if a1 = a2 then (some ((-1000000001 : Int32), M_5)) else (x_g (((30 : Int32) + ((3 : Int32) * a1)) + (1 : Int32)) 1675 (if (M_5 1 (((30 : Int32) + ((3 : Int32) * a1)) + (1 : Int32)).toNatClampNeg) = (-1 : Int32) then (x_g (((30 : Int32) + ((3 : Int32) * a2)) + (1 : Int32)) 1675 (if (M_5 1 (((30 : Int32) + ((3 : Int32) * a2)) + (1 : Int32)).toNatClampNeg) = (-1 : Int32) then (x_g (((30 : Int32) + ((3 : Int32) * a1)) + (1 : Int32)) 1675 (x_l (x_up M_5 1 (((30 : Int32) + ((3 : Int32) * a1)) + (1 : Int32)).toNatClampNeg a2) fun M_15 => x_g (((30 : Int32) + ((3 : Int32) * a2)) + (1 : Int32)) 1675 (x_l (x_up M_15 1 (((30 : Int32) + ((3 : Int32) * a2)) + (1 : Int32)).toNatClampNeg a1) fun M_17 => some ((1 : Int32), M_17)))) else (some ((-1000000002 : Int32), M_5)))) else (some ((-1000000002 : Int32), M_5))))))
set_option maxRecDepth 100000 in
set_option maxHeartbeats 4000000 in
theorem mX11_couple (l : Launch) (g : xG) {a1 : Int32} {a2 : Int32} {r : Int32} {M' : xM}  {M : xM} (hf : fX11_couple M a1 a2 = some (r, M')) : x_cI l g 1 yX11_couple cX11_couple 3 .int 2 43 [.ref (g.2.2.1 0), .int a1, .int a2] M (fun v N => v = r ∧ N = M') := by
  refine x_stI RX11 (by decide) rfl (Nat.le_of_ble_eq_true rfl) ?_
  intro p e s m args below meth c Q ls C hw ret hl
  obtain ⟨hx, hb, hml, hown, hB, -⟩ := id C
  have hl : lv_has ls 3 [(0, .ref (g.2.2.1 0)), (1, .int a1), (2, .int a2)] := hl
  unfold fX11_couple at hf
  refine lv_aload_n hx hb dX11_couple_0 rfl (lv_at hl 0 rfl) ?_
  refine lv_iload_n hx hb dX11_couple_1 rfl (lv_at hl 1 rfl) ?_
  obtain ⟨tv_3, tM_1, c_2, hf⟩ := x_bE hf
  refine x_vI C hw hl.1 [.int a1] [] (mX11_isPerson l g c_2) lk_X11_62 ic1_0 (by decide) rfl (by decide) rfl (Nat.le_of_ble_eq_true rfl) ⟨Nat.zero_le _, Nat.zero_le _⟩ dX11_couple_2 (fun v_3 M_1 H locs hN hw => ?_)
  obtain ⟨rfl, rfl⟩ := hN
  refine lv_if_eq (tgt := 21) hx hb dX11_couple_5 (by decide) (fun q_4 => ?_) (fun q_4 => ?_)
  · have hf := x_iP hf q_4
    refine lv_ldc hx hb hown (hB _ mk_X11_60) dX11_couple_21 ?_
    exact ret hf dX11_couple_23 hw
  · have hf := x_iN hf q_4
    refine lv_aload_n hx hb dX11_couple_8 rfl (lv_at hl 0 rfl) ?_
    refine lv_iload_n hx hb dX11_couple_9 rfl (lv_at hl 2 rfl) ?_
    obtain ⟨tv_7, tM_5, c_6, hf⟩ := x_bE hf
    refine x_vI C hw hl.1 [.int a2] [] (mX11_isPerson l g c_6) lk_X11_62 ic1_0 (by decide) rfl (by decide) rfl (Nat.le_of_ble_eq_true rfl) ⟨Nat.zero_le _, Nat.zero_le _⟩ dX11_couple_10 (fun v_7 M_5 H locs hN hw => ?_)
    obtain ⟨rfl, rfl⟩ := hN
    refine lv_if_eq (tgt := 21) hx hb dX11_couple_13 (by decide) (fun q_8 => ?_) (fun q_8 => ?_)
    · have hf := x_iP hf q_8
      refine lv_ldc hx hb hown (hB _ mk_X11_60) dX11_couple_21 ?_
      exact ret hf dX11_couple_23 hw
    · have hf := x_iN hf q_8
      refine lv_iload_n hx hb dX11_couple_16 rfl (lv_at hl 1 rfl) ?_
      refine lv_iload_n hx hb dX11_couple_17 rfl (lv_at hl 2 rfl) ?_
      refine lv_icmp_ne (tgt := 24) hx hb dX11_couple_18 (by decide) (fun q_9 => ?_) (fun q_9 => ?_)
      · have hf := x_iN hf q_9
        refine lv_aload_n hx hb dX11_couple_24 rfl (lv_at hl 0 rfl) ?_
        refine fg_X11_7 (k2 := 1) C hw ic1_0 rfl dX11_couple_25 ?_
        refine lv_bipush (v := (30 : Int32)) hx hb dX11_couple_28 (by decide) ?_
        refine lv_iconst (v := (3 : Int32)) hx hb dX11_couple_30 (by decide) ?_
        refine lv_iload_n hx hb dX11_couple_31 rfl (lv_at hl 1 rfl) ?_
        refine lv_imul hx hb dX11_couple_32 ?_
        refine lv_iadd hx hb dX11_couple_33 ?_
        refine lv_iconst (v := (1 : Int32)) hx hb dX11_couple_34 (by decide) ?_
        refine lv_iadd hx hb dX11_couple_35 ?_
        obtain ⟨q_10, hf⟩ := x_gE hf
        refine x_ald C hw ic1_1 q_10 rfl dX11_couple_36 ?_
        refine lv_iconst (v := (-1 : Int32)) hx hb dX11_couple_37 (by decide) ?_
        refine lv_icmp_ne (tgt := 58) hx hb dX11_couple_38 (by decide) (fun q_11 => ?_) (fun q_11 => ?_)
        · have hf := x_iN hf q_11
          refine lv_ldc hx hb hown (hB _ mk_X11_69) dX11_couple_58 ?_
          exact ret hf dX11_couple_60 hw
        · have hf := x_iP hf q_11
          refine lv_aload_n hx hb dX11_couple_41 rfl (lv_at hl 0 rfl) ?_
          refine fg_X11_7 (k2 := 1) C hw ic1_0 rfl dX11_couple_42 ?_
          refine lv_bipush (v := (30 : Int32)) hx hb dX11_couple_45 (by decide) ?_
          refine lv_iconst (v := (3 : Int32)) hx hb dX11_couple_47 (by decide) ?_
          refine lv_iload_n hx hb dX11_couple_48 rfl (lv_at hl 2 rfl) ?_
          refine lv_imul hx hb dX11_couple_49 ?_
          refine lv_iadd hx hb dX11_couple_50 ?_
          refine lv_iconst (v := (1 : Int32)) hx hb dX11_couple_51 (by decide) ?_
          refine lv_iadd hx hb dX11_couple_52 ?_
          obtain ⟨q_12, hf⟩ := x_gE hf
          refine x_ald C hw ic1_1 q_12 rfl dX11_couple_53 ?_
          refine lv_iconst (v := (-1 : Int32)) hx hb dX11_couple_54 (by decide) ?_
          refine lv_icmp_eq (tgt := 61) hx hb dX11_couple_55 (by decide) (fun q_13 => ?_) (fun q_13 => ?_)
          · have hf := x_iP hf q_13
            refine lv_aload_n hx hb dX11_couple_61 rfl (lv_at hl 0 rfl) ?_
            refine fg_X11_7 (k2 := 1) C hw ic1_0 rfl dX11_couple_62 ?_
            refine lv_bipush (v := (30 : Int32)) hx hb dX11_couple_65 (by decide) ?_
            refine lv_iconst (v := (3 : Int32)) hx hb dX11_couple_67 (by decide) ?_
            refine lv_iload_n hx hb dX11_couple_68 rfl (lv_at hl 1 rfl) ?_
            refine lv_imul hx hb dX11_couple_69 ?_
            refine lv_iadd hx hb dX11_couple_70 ?_
            refine lv_iconst (v := (1 : Int32)) hx hb dX11_couple_71 (by decide) ?_
            refine lv_iadd hx hb dX11_couple_72 ?_
            refine lv_iload_n hx hb dX11_couple_73 rfl (lv_at hl 2 rfl) ?_
            obtain ⟨q_14, hf⟩ := x_gE hf
            refine x_ast C hw ic1_1 q_14 rfl dX11_couple_74 (fun H locs hw => ?_)
            obtain ⟨M_15, eM_15⟩ : ∃ z, z = (x_up M_5 1 (((30 : Int32) + ((3 : Int32) * a1)) + (1 : Int32)).toNatClampNeg a2) := ⟨_, rfl⟩
            rw [← eM_15] at hw
            have hf := x_lE eM_15 hf
            refine lv_aload_n hx hb dX11_couple_75 rfl (lv_at hl 0 rfl) ?_
            refine fg_X11_7 (k2 := 1) C hw ic1_0 rfl dX11_couple_76 ?_
            refine lv_bipush (v := (30 : Int32)) hx hb dX11_couple_79 (by decide) ?_
            refine lv_iconst (v := (3 : Int32)) hx hb dX11_couple_81 (by decide) ?_
            refine lv_iload_n hx hb dX11_couple_82 rfl (lv_at hl 2 rfl) ?_
            refine lv_imul hx hb dX11_couple_83 ?_
            refine lv_iadd hx hb dX11_couple_84 ?_
            refine lv_iconst (v := (1 : Int32)) hx hb dX11_couple_85 (by decide) ?_
            refine lv_iadd hx hb dX11_couple_86 ?_
            refine lv_iload_n hx hb dX11_couple_87 rfl (lv_at hl 1 rfl) ?_
            obtain ⟨q_16, hf⟩ := x_gE hf
            refine x_ast C hw ic1_1 q_16 rfl dX11_couple_88 (fun H locs hw => ?_)
            obtain ⟨M_17, eM_17⟩ : ∃ z, z = (x_up M_15 1 (((30 : Int32) + ((3 : Int32) * a2)) + (1 : Int32)).toNatClampNeg a1) := ⟨_, rfl⟩
            rw [← eM_17] at hw
            have hf := x_lE eM_17 hf
            refine lv_iconst (v := (1 : Int32)) hx hb dX11_couple_89 (by decide) ?_
            exact ret hf dX11_couple_90 hw
          · have hf := x_iN hf q_13
            refine lv_ldc hx hb hown (hB _ mk_X11_69) dX11_couple_58 ?_
            exact ret hf dX11_couple_60 hw
      · have hf := x_iP hf q_9
        refine lv_ldc hx hb hown (hB _ mk_X11_60) dX11_couple_21 ?_
        exact ret hf dX11_couple_23 hw
noncomputable def fX11_part (M : xM) (a1 : Int32) : Option (Int32 × xM) := x_b (fX11_isPerson M a1) fun v_3 M_1 => if v_3 = 0 then (some ((-1000000001 : Int32), M_1)) else (x_g (((30 : Int32) + ((3 : Int32) * a1)) + (1 : Int32)) 1675 (x_l (M_1 1 (((30 : Int32) + ((3 : Int32) * a1)) + (1 : Int32)).toNatClampNeg) fun x2_6 => if x2_6 = (-1 : Int32) then (some ((-1000000002 : Int32), M_1)) else (x_g (((30 : Int32) + ((3 : Int32) * a1)) + (1 : Int32)) 1675 (x_l (x_up M_1 1 (((30 : Int32) + ((3 : Int32) * a1)) + (1 : Int32)).toNatClampNeg (-1 : Int32)) fun M_9 => x_g (((30 : Int32) + ((3 : Int32) * x2_6)) + (1 : Int32)) 1675 (x_l (x_up M_9 1 (((30 : Int32) + ((3 : Int32) * x2_6)) + (1 : Int32)).toNatClampNeg (-1 : Int32)) fun M_11 => some (x2_6, M_11))))))
set_option maxRecDepth 100000 in
set_option maxHeartbeats 4000000 in
theorem mX11_part (l : Launch) (g : xG) {a1 : Int32} {r : Int32} {M' : xM}  {M : xM} (hf : fX11_part M a1 = some (r, M')) : x_cI l g 1 yX11_part cX11_part 3 .int 2 43 [.ref (g.2.2.1 0), .int a1] M (fun v N => v = r ∧ N = M') := by
  refine x_stI RX11 (by decide) rfl (Nat.le_of_ble_eq_true rfl) ?_
  intro p e s m args below meth c Q ls C hw ret hl
  obtain ⟨hx, hb, hml, hown, hB, -⟩ := id C
  have hl : lv_has ls 3 [(0, .ref (g.2.2.1 0)), (1, .int a1)] := hl
  unfold fX11_part at hf
  refine lv_aload_n hx hb dX11_part_0 rfl (lv_at hl 0 rfl) ?_
  refine lv_iload_n hx hb dX11_part_1 rfl (lv_at hl 1 rfl) ?_
  obtain ⟨tv_3, tM_1, c_2, hf⟩ := x_bE hf
  refine x_vI C hw hl.1 [.int a1] [] (mX11_isPerson l g c_2) lk_X11_62 ic1_0 (by decide) rfl (by decide) rfl (Nat.le_of_ble_eq_true rfl) ⟨Nat.zero_le _, Nat.zero_le _⟩ dX11_part_2 (fun v_3 M_1 H locs hN hw => ?_)
  obtain ⟨rfl, rfl⟩ := hN
  refine lv_if_ne (tgt := 11) hx hb dX11_part_5 (by decide) (fun q_4 => ?_) (fun q_4 => ?_)
  · have hf := x_iN hf q_4
    refine lv_aload_n hx hb dX11_part_11 rfl (lv_at hl 0 rfl) ?_
    refine fg_X11_7 (k2 := 1) C hw ic1_0 rfl dX11_part_12 ?_
    refine lv_bipush (v := (30 : Int32)) hx hb dX11_part_15 (by decide) ?_
    refine lv_iconst (v := (3 : Int32)) hx hb dX11_part_17 (by decide) ?_
    refine lv_iload_n hx hb dX11_part_18 rfl (lv_at hl 1 rfl) ?_
    refine lv_imul hx hb dX11_part_19 ?_
    refine lv_iadd hx hb dX11_part_20 ?_
    refine lv_iconst (v := (1 : Int32)) hx hb dX11_part_21 (by decide) ?_
    refine lv_iadd hx hb dX11_part_22 ?_
    obtain ⟨q_5, hf⟩ := x_gE hf
    refine x_ald C hw ic1_1 q_5 rfl dX11_part_23 ?_
    refine lv_topi (fun x2_6 ex2_6 => ?_)
    have hf := x_lE ex2_6 hf
    refine lv_istore_n (lv' := [(2, .int x2_6), (0, .ref (g.2.2.1 0)), (1, .int a1)]) hx hb dX11_part_24 rfl hl (by decide) rfl (fun ls hl => ?_)
    refine lv_iload_n hx hb dX11_part_25 rfl (lv_at hl 0 rfl) ?_
    refine lv_iconst (v := (-1 : Int32)) hx hb dX11_part_26 (by decide) ?_
    refine lv_icmp_ne (tgt := 33) hx hb dX11_part_27 (by decide) (fun q_7 => ?_) (fun q_7 => ?_)
    · have hf := x_iN hf q_7
      refine lv_aload_n hx hb dX11_part_33 rfl (lv_at hl 1 rfl) ?_
      refine fg_X11_7 (k2 := 1) C hw ic1_0 rfl dX11_part_34 ?_
      refine lv_bipush (v := (30 : Int32)) hx hb dX11_part_37 (by decide) ?_
      refine lv_iconst (v := (3 : Int32)) hx hb dX11_part_39 (by decide) ?_
      refine lv_iload_n hx hb dX11_part_40 rfl (lv_at hl 2 rfl) ?_
      refine lv_imul hx hb dX11_part_41 ?_
      refine lv_iadd hx hb dX11_part_42 ?_
      refine lv_iconst (v := (1 : Int32)) hx hb dX11_part_43 (by decide) ?_
      refine lv_iadd hx hb dX11_part_44 ?_
      refine lv_iconst (v := (-1 : Int32)) hx hb dX11_part_45 (by decide) ?_
      obtain ⟨q_8, hf⟩ := x_gE hf
      refine x_ast C hw ic1_1 q_8 rfl dX11_part_46 (fun H locs hw => ?_)
      obtain ⟨M_9, eM_9⟩ : ∃ z, z = (x_up M_1 1 (((30 : Int32) + ((3 : Int32) * a1)) + (1 : Int32)).toNatClampNeg (-1 : Int32)) := ⟨_, rfl⟩
      rw [← eM_9] at hw
      have hf := x_lE eM_9 hf
      refine lv_aload_n hx hb dX11_part_47 rfl (lv_at hl 1 rfl) ?_
      refine fg_X11_7 (k2 := 1) C hw ic1_0 rfl dX11_part_48 ?_
      refine lv_bipush (v := (30 : Int32)) hx hb dX11_part_51 (by decide) ?_
      refine lv_iconst (v := (3 : Int32)) hx hb dX11_part_53 (by decide) ?_
      refine lv_iload_n hx hb dX11_part_54 rfl (lv_at hl 0 rfl) ?_
      refine lv_imul hx hb dX11_part_55 ?_
      refine lv_iadd hx hb dX11_part_56 ?_
      refine lv_iconst (v := (1 : Int32)) hx hb dX11_part_57 (by decide) ?_
      refine lv_iadd hx hb dX11_part_58 ?_
      refine lv_iconst (v := (-1 : Int32)) hx hb dX11_part_59 (by decide) ?_
      obtain ⟨q_10, hf⟩ := x_gE hf
      refine x_ast C hw ic1_1 q_10 rfl dX11_part_60 (fun H locs hw => ?_)
      obtain ⟨M_11, eM_11⟩ : ∃ z, z = (x_up M_9 1 (((30 : Int32) + ((3 : Int32) * x2_6)) + (1 : Int32)).toNatClampNeg (-1 : Int32)) := ⟨_, rfl⟩
      rw [← eM_11] at hw
      have hf := x_lE eM_11 hf
      refine lv_iload_n hx hb dX11_part_61 rfl (lv_at hl 0 rfl) ?_
      exact ret hf dX11_part_62 hw
    · have hf := x_iP hf q_7
      refine lv_ldc hx hb hown (hB _ mk_X11_69) dX11_part_30 ?_
      exact ret hf dX11_part_32 hw
  · have hf := x_iP hf q_4
    refine lv_ldc hx hb hown (hB _ mk_X11_60) dX11_part_8 ?_
    exact ret hf dX11_part_10 hw
noncomputable def fX11_fact (M : xM) (a1 : Int32) (a2 : Int32) (a3 : Int32) (a4 : Int32) (a5 : Int32) : Option (Int32 × xM) := x_b (fX11_isPerson M a1) fun v_3 M_1 => if v_3 = 0 then (some ((-1000000001 : Int32), M_1)) else (x_b (fX11_in M_1 a2 (0 : Int32) (3 : Int32)) fun v_7 M_5 => if v_7 = 0 then (some ((-1000000001 : Int32), M_5)) else (x_b (fX11_in M_5 a3 (0 : Int32) (1 : Int32)) fun v_11 M_9 => if v_11 = 0 then (some ((-1000000001 : Int32), M_9)) else (x_l (fun (M_14 : xM) => x_l (fun (M_17 : xM) (z_15 : Int32) => x_b (fX11_in M_17 a4 (0 : Int32) z_15) fun v_20 M_18 => if v_20 = 0 then (some ((-1000000001 : Int32), M_18)) else (x_b (fX11_in M_18 a5 (0 : Int32) (3000 : Int32)) fun v_24 M_22 => if v_24 = 0 then (some ((-1000000001 : Int32), M_22)) else (if (M_22 1 18) = (96 : Int32) then (some ((-1000000003 : Int32), M_22)) else (x_l ((66 : Int32) + ((6 : Int32) * (M_22 1 18))) fun x6_29 => x_g x6_29 1675 (x_l (x_up M_22 1 x6_29.toNatClampNeg a1) fun M_31 => x_g (x6_29 + (1 : Int32)) 1675 (x_l (x_up M_31 1 (x6_29 + (1 : Int32)).toNatClampNeg a2) fun M_33 => x_g (x6_29 + (2 : Int32)) 1675 (x_l (x_up M_33 1 (x6_29 + (2 : Int32)).toNatClampNeg a3) fun M_35 => x_g (x6_29 + (3 : Int32)) 1675 (x_l (x_up M_35 1 (x6_29 + (3 : Int32)).toNatClampNeg a4) fun M_37 => x_g (x6_29 + (4 : Int32)) 1675 (x_l (x_up M_37 1 (x6_29 + (4 : Int32)).toNatClampNeg a5) fun M_39 => x_g (x6_29 + (5 : Int32)) 1675 (x_l (x_up M_39 1 (x6_29 + (5 : Int32)).toNatClampNeg (M_39 1 0)) fun M_42 => x_l (x_up M_42 1 18 ((M_42 1 18) + (1 : Int32))) fun M_45 => some ((M_45 1 18), M_45))))))))))) fun k56_16 => if a2 = (1 : Int32) then (k56_16 M_14 (9 : Int32)) else (k56_16 M_14 (99999 : Int32))) fun k41_13 => if a3 = (1 : Int32) then (if a2 = (1 : Int32) then (some ((-1000000001 : Int32), M_9)) else (if a2 = (3 : Int32) then (some ((-1000000001 : Int32), M_9)) else (k41_13 M_9))) else (k41_13 M_9))))
set_option maxRecDepth 100000 in
set_option maxHeartbeats 4000000 in
theorem mX11_fact (l : Launch) (g : xG) {a1 : Int32} {a2 : Int32} {a3 : Int32} {a4 : Int32} {a5 : Int32} {r : Int32} {M' : xM}  {M : xM} (hf : fX11_fact M a1 a2 a3 a4 a5 = some (r, M')) : x_cI l g 1 yX11_fact cX11_fact 7 .int 2 43 [.ref (g.2.2.1 0), .int a1, .int a2, .int a3, .int a4, .int a5] M (fun v N => v = r ∧ N = M') := by
  refine x_stI RX11 (by decide) rfl (Nat.le_of_ble_eq_true rfl) ?_
  intro p e s m args below meth c Q ls C hw ret hl
  obtain ⟨hx, hb, hml, hown, hB, -⟩ := id C
  have hl : lv_has ls 7 [(0, .ref (g.2.2.1 0)), (1, .int a1), (2, .int a2), (3, .int a3), (4, .int a4), (5, .int a5)] := hl
  unfold fX11_fact at hf
  refine lv_aload_n hx hb dX11_fact_0 rfl (lv_at hl 0 rfl) ?_
  refine lv_iload_n hx hb dX11_fact_1 rfl (lv_at hl 1 rfl) ?_
  obtain ⟨tv_3, tM_1, c_2, hf⟩ := x_bE hf
  refine x_vI C hw hl.1 [.int a1] [] (mX11_isPerson l g c_2) lk_X11_62 ic1_0 (by decide) rfl (by decide) rfl (Nat.le_of_ble_eq_true rfl) ⟨Nat.zero_le _, Nat.zero_le _⟩ dX11_fact_2 (fun v_3 M_1 H locs hN hw => ?_)
  obtain ⟨rfl, rfl⟩ := hN
  refine lv_if_eq (tgt := 74) hx hb dX11_fact_5 (by decide) (fun q_4 => ?_) (fun q_4 => ?_)
  · have hf := x_iP hf q_4
    refine lv_ldc hx hb hown (hB _ mk_X11_60) dX11_fact_74 ?_
    exact ret hf dX11_fact_76 hw
  · have hf := x_iN hf q_4
    refine lv_iload_n hx hb dX11_fact_8 rfl (lv_at hl 2 rfl) ?_
    refine lv_iconst (v := (0 : Int32)) hx hb dX11_fact_9 (by decide) ?_
    refine lv_iconst (v := (3 : Int32)) hx hb dX11_fact_10 (by decide) ?_
    obtain ⟨tv_7, tM_5, c_6, hf⟩ := x_bE hf
    refine x_sI C hw hl.1 [.int a2, .int (0 : Int32), .int (3 : Int32)] [] (mX11_in l g c_6) lk_X11_56 (by decide) rfl (Nat.le_of_ble_eq_true rfl) ⟨Nat.zero_le _, Nat.zero_le _⟩ dX11_fact_11 (fun v_7 M_5 H locs hN hw => ?_)
    obtain ⟨rfl, rfl⟩ := hN
    refine lv_if_eq (tgt := 74) hx hb dX11_fact_14 (by decide) (fun q_8 => ?_) (fun q_8 => ?_)
    · have hf := x_iP hf q_8
      refine lv_ldc hx hb hown (hB _ mk_X11_60) dX11_fact_74 ?_
      exact ret hf dX11_fact_76 hw
    · have hf := x_iN hf q_8
      refine lv_iload_n hx hb dX11_fact_17 rfl (lv_at hl 3 rfl) ?_
      refine lv_iconst (v := (0 : Int32)) hx hb dX11_fact_18 (by decide) ?_
      refine lv_iconst (v := (1 : Int32)) hx hb dX11_fact_19 (by decide) ?_
      obtain ⟨tv_11, tM_9, c_10, hf⟩ := x_bE hf
      refine x_sI C hw hl.1 [.int a3, .int (0 : Int32), .int (1 : Int32)] [] (mX11_in l g c_10) lk_X11_56 (by decide) rfl (Nat.le_of_ble_eq_true rfl) ⟨Nat.zero_le _, Nat.zero_le _⟩ dX11_fact_20 (fun v_11 M_9 H locs hN hw => ?_)
      obtain ⟨rfl, rfl⟩ := hN
      refine lv_if_eq (tgt := 74) hx hb dX11_fact_23 (by decide) (fun q_12 => ?_) (fun q_12 => ?_)
      · have hf := x_iP hf q_12
        refine lv_ldc hx hb hown (hB _ mk_X11_60) dX11_fact_74 ?_
        exact ret hf dX11_fact_76 hw
      · have hf := x_iN hf q_12
        refine lv_iload_n hx hb dX11_fact_26 rfl (lv_at hl 3 rfl) ?_
        refine lv_iconst (v := (1 : Int32)) hx hb dX11_fact_27 (by decide) ?_
        obtain ⟨k41_13, ek41_13, hf⟩ := x_jE hf
        have hk41_13 : ∀ (H : Heap) (locs : List Loc) (M_14 : xM)  (ls : Array Slot) , lv_has ls 7 [(0, .ref (g.2.2.1 0)), (1, .int a1), (2, .int a2), (3, .int a3), (4, .int a4), (5, .int a5)] → x_w g 1 s H locs M_14 → k41_13 M_14 = some (r, M') → W p l e (x_rm 2 43) s m args below meth c H locs 0 0 Q (F0 m 41 ls []) := by
          intro H locs M_14  ls  hl hw hf
          rw [ek41_13] at hf
          refine lv_iload hx hb dX11_fact_41 (lv_at hl 4 rfl) ?_
          refine lv_iconst (v := (0 : Int32)) hx hb dX11_fact_43 (by decide) ?_
          refine lv_iload_n hx hb dX11_fact_44 rfl (lv_at hl 2 rfl) ?_
          refine lv_iconst (v := (1 : Int32)) hx hb dX11_fact_45 (by decide) ?_
          obtain ⟨k56_16, ek56_16, hf⟩ := x_jE hf
          have hk56_16 : ∀ (H : Heap) (locs : List Loc) (M_17 : xM) (z_15 : Int32) (ls : Array Slot) , lv_has ls 7 [(0, .ref (g.2.2.1 0)), (1, .int a1), (2, .int a2), (3, .int a3), (4, .int a4), (5, .int a5)] → x_w g 1 s H locs M_17 → k56_16 M_17 z_15 = some (r, M') → W p l e (x_rm 2 43) s m args below meth c H locs 0 0 Q (F0 m 56 ls [.int z_15, .int (0 : Int32), .int a4]) := by
            intro H locs M_17 z_15 ls  hl hw hf
            rw [ek56_16] at hf
            obtain ⟨tv_20, tM_18, c_19, hf⟩ := x_bE hf
            refine x_sI C hw hl.1 [.int a4, .int (0 : Int32), .int z_15] [] (mX11_in l g c_19) lk_X11_56 (by decide) rfl (Nat.le_of_ble_eq_true rfl) ⟨Nat.zero_le _, Nat.zero_le _⟩ dX11_fact_56 (fun v_20 M_18 H locs hN hw => ?_)
            obtain ⟨rfl, rfl⟩ := hN
            refine lv_if_eq (tgt := 74) hx hb dX11_fact_59 (by decide) (fun q_21 => ?_) (fun q_21 => ?_)
            · have hf := x_iP hf q_21
              refine lv_ldc hx hb hown (hB _ mk_X11_60) dX11_fact_74 ?_
              exact ret hf dX11_fact_76 hw
            · have hf := x_iN hf q_21
              refine lv_iload hx hb dX11_fact_62 (lv_at hl 5 rfl) ?_
              refine lv_iconst (v := (0 : Int32)) hx hb dX11_fact_64 (by decide) ?_
              refine lv_sipush (v := (3000 : Int32)) hx hb dX11_fact_65 (by decide) ?_
              obtain ⟨tv_24, tM_22, c_23, hf⟩ := x_bE hf
              refine x_sI C hw hl.1 [.int a5, .int (0 : Int32), .int (3000 : Int32)] [] (mX11_in l g c_23) lk_X11_56 (by decide) rfl (Nat.le_of_ble_eq_true rfl) ⟨Nat.zero_le _, Nat.zero_le _⟩ dX11_fact_68 (fun v_24 M_22 H locs hN hw => ?_)
              obtain ⟨rfl, rfl⟩ := hN
              refine lv_if_ne (tgt := 77) hx hb dX11_fact_71 (by decide) (fun q_25 => ?_) (fun q_25 => ?_)
              · have hf := x_iN hf q_25
                refine lv_aload_n hx hb dX11_fact_77 rfl (lv_at hl 0 rfl) ?_
                refine fg_X11_7 (k2 := 1) C hw ic1_0 rfl dX11_fact_78 ?_
                refine lv_bipush (v := (18 : Int32)) hx hb dX11_fact_81 (by decide) ?_
                refine x_ald (j := 18) C hw ic1_1 (x_inl rfl) rfl dX11_fact_83 ?_
                refine lv_bipush (v := (96 : Int32)) hx hb dX11_fact_84 (by decide) ?_
                refine lv_icmp_ne (tgt := 92) hx hb dX11_fact_86 (by decide) (fun q_27 => ?_) (fun q_27 => ?_)
                · have hf := x_iN hf q_27
                  refine lv_bipush (v := (66 : Int32)) hx hb dX11_fact_92 (by decide) ?_
                  refine lv_bipush (v := (6 : Int32)) hx hb dX11_fact_94 (by decide) ?_
                  refine lv_aload_n hx hb dX11_fact_96 rfl (lv_at hl 0 rfl) ?_
                  refine fg_X11_7 (k2 := 1) C hw ic1_0 rfl dX11_fact_97 ?_
                  refine lv_bipush (v := (18 : Int32)) hx hb dX11_fact_100 (by decide) ?_
                  refine x_ald (j := 18) C hw ic1_1 (x_inl rfl) rfl dX11_fact_102 ?_
                  refine lv_imul hx hb dX11_fact_103 ?_
                  refine lv_iadd hx hb dX11_fact_104 ?_
                  refine lv_topi (fun x6_29 ex6_29 => ?_)
                  have hf := x_lE ex6_29 hf
                  refine lv_istore (lv' := [(6, .int x6_29), (0, .ref (g.2.2.1 0)), (1, .int a1), (2, .int a2), (3, .int a3), (4, .int a4), (5, .int a5)]) hx hb dX11_fact_105 hl (by decide) rfl (fun ls hl => ?_)
                  refine lv_aload_n hx hb dX11_fact_107 rfl (lv_at hl 1 rfl) ?_
                  refine fg_X11_7 (k2 := 1) C hw ic1_0 rfl dX11_fact_108 ?_
                  refine lv_iload hx hb dX11_fact_111 (lv_at hl 0 rfl) ?_
                  refine lv_iload_n hx hb dX11_fact_113 rfl (lv_at hl 2 rfl) ?_
                  obtain ⟨q_30, hf⟩ := x_gE hf
                  refine x_ast C hw ic1_1 q_30 rfl dX11_fact_114 (fun H locs hw => ?_)
                  obtain ⟨M_31, eM_31⟩ : ∃ z, z = (x_up M_22 1 x6_29.toNatClampNeg a1) := ⟨_, rfl⟩
                  rw [← eM_31] at hw
                  have hf := x_lE eM_31 hf
                  refine lv_aload_n hx hb dX11_fact_115 rfl (lv_at hl 1 rfl) ?_
                  refine fg_X11_7 (k2 := 1) C hw ic1_0 rfl dX11_fact_116 ?_
                  refine lv_iload hx hb dX11_fact_119 (lv_at hl 0 rfl) ?_
                  refine lv_iconst (v := (1 : Int32)) hx hb dX11_fact_121 (by decide) ?_
                  refine lv_iadd hx hb dX11_fact_122 ?_
                  refine lv_iload_n hx hb dX11_fact_123 rfl (lv_at hl 3 rfl) ?_
                  obtain ⟨q_32, hf⟩ := x_gE hf
                  refine x_ast C hw ic1_1 q_32 rfl dX11_fact_124 (fun H locs hw => ?_)
                  obtain ⟨M_33, eM_33⟩ : ∃ z, z = (x_up M_31 1 (x6_29 + (1 : Int32)).toNatClampNeg a2) := ⟨_, rfl⟩
                  rw [← eM_33] at hw
                  have hf := x_lE eM_33 hf
                  refine lv_aload_n hx hb dX11_fact_125 rfl (lv_at hl 1 rfl) ?_
                  refine fg_X11_7 (k2 := 1) C hw ic1_0 rfl dX11_fact_126 ?_
                  refine lv_iload hx hb dX11_fact_129 (lv_at hl 0 rfl) ?_
                  refine lv_iconst (v := (2 : Int32)) hx hb dX11_fact_131 (by decide) ?_
                  refine lv_iadd hx hb dX11_fact_132 ?_
                  refine lv_iload_n hx hb dX11_fact_133 rfl (lv_at hl 4 rfl) ?_
                  obtain ⟨q_34, hf⟩ := x_gE hf
                  refine x_ast C hw ic1_1 q_34 rfl dX11_fact_134 (fun H locs hw => ?_)
                  obtain ⟨M_35, eM_35⟩ : ∃ z, z = (x_up M_33 1 (x6_29 + (2 : Int32)).toNatClampNeg a3) := ⟨_, rfl⟩
                  rw [← eM_35] at hw
                  have hf := x_lE eM_35 hf
                  refine lv_aload_n hx hb dX11_fact_135 rfl (lv_at hl 1 rfl) ?_
                  refine fg_X11_7 (k2 := 1) C hw ic1_0 rfl dX11_fact_136 ?_
                  refine lv_iload hx hb dX11_fact_139 (lv_at hl 0 rfl) ?_
                  refine lv_iconst (v := (3 : Int32)) hx hb dX11_fact_141 (by decide) ?_
                  refine lv_iadd hx hb dX11_fact_142 ?_
                  refine lv_iload hx hb dX11_fact_143 (lv_at hl 5 rfl) ?_
                  obtain ⟨q_36, hf⟩ := x_gE hf
                  refine x_ast C hw ic1_1 q_36 rfl dX11_fact_145 (fun H locs hw => ?_)
                  obtain ⟨M_37, eM_37⟩ : ∃ z, z = (x_up M_35 1 (x6_29 + (3 : Int32)).toNatClampNeg a4) := ⟨_, rfl⟩
                  rw [← eM_37] at hw
                  have hf := x_lE eM_37 hf
                  refine lv_aload_n hx hb dX11_fact_146 rfl (lv_at hl 1 rfl) ?_
                  refine fg_X11_7 (k2 := 1) C hw ic1_0 rfl dX11_fact_147 ?_
                  refine lv_iload hx hb dX11_fact_150 (lv_at hl 0 rfl) ?_
                  refine lv_iconst (v := (4 : Int32)) hx hb dX11_fact_152 (by decide) ?_
                  refine lv_iadd hx hb dX11_fact_153 ?_
                  refine lv_iload hx hb dX11_fact_154 (lv_at hl 6 rfl) ?_
                  obtain ⟨q_38, hf⟩ := x_gE hf
                  refine x_ast C hw ic1_1 q_38 rfl dX11_fact_156 (fun H locs hw => ?_)
                  obtain ⟨M_39, eM_39⟩ : ∃ z, z = (x_up M_37 1 (x6_29 + (4 : Int32)).toNatClampNeg a5) := ⟨_, rfl⟩
                  rw [← eM_39] at hw
                  have hf := x_lE eM_39 hf
                  refine lv_aload_n hx hb dX11_fact_157 rfl (lv_at hl 1 rfl) ?_
                  refine fg_X11_7 (k2 := 1) C hw ic1_0 rfl dX11_fact_158 ?_
                  refine lv_iload hx hb dX11_fact_161 (lv_at hl 0 rfl) ?_
                  refine lv_iconst (v := (5 : Int32)) hx hb dX11_fact_163 (by decide) ?_
                  refine lv_iadd hx hb dX11_fact_164 ?_
                  refine lv_aload_n hx hb dX11_fact_165 rfl (lv_at hl 1 rfl) ?_
                  refine fg_X11_7 (k2 := 1) C hw ic1_0 rfl dX11_fact_166 ?_
                  refine lv_iconst (v := (0 : Int32)) hx hb dX11_fact_169 (by decide) ?_
                  refine x_ald (j := 0) C hw ic1_1 (x_inl rfl) rfl dX11_fact_170 ?_
                  obtain ⟨q_41, hf⟩ := x_gE hf
                  refine x_ast C hw ic1_1 q_41 rfl dX11_fact_171 (fun H locs hw => ?_)
                  obtain ⟨M_42, eM_42⟩ : ∃ z, z = (x_up M_39 1 (x6_29 + (5 : Int32)).toNatClampNeg (M_39 1 0)) := ⟨_, rfl⟩
                  rw [← eM_42] at hw
                  have hf := x_lE eM_42 hf
                  refine lv_aload_n hx hb dX11_fact_172 rfl (lv_at hl 1 rfl) ?_
                  refine fg_X11_7 (k2 := 1) C hw ic1_0 rfl dX11_fact_173 ?_
                  refine lv_bipush (v := (18 : Int32)) hx hb dX11_fact_176 (by decide) ?_
                  refine lv_dup2_11 hx hb dX11_fact_178 rfl rfl ?_
                  refine x_ald (j := 18) C hw ic1_1 (x_inl rfl) rfl dX11_fact_179 ?_
                  refine lv_iconst (v := (1 : Int32)) hx hb dX11_fact_180 (by decide) ?_
                  refine lv_iadd hx hb dX11_fact_181 ?_
                  refine x_ast (j := 18) C hw ic1_1 (x_inl rfl) rfl dX11_fact_182 (fun H locs hw => ?_)
                  obtain ⟨M_45, eM_45⟩ : ∃ z, z = (x_up M_42 1 18 ((M_42 1 18) + (1 : Int32))) := ⟨_, rfl⟩
                  rw [← eM_45] at hw
                  have hf := x_lE eM_45 hf
                  refine lv_aload_n hx hb dX11_fact_183 rfl (lv_at hl 1 rfl) ?_
                  refine fg_X11_7 (k2 := 1) C hw ic1_0 rfl dX11_fact_184 ?_
                  refine lv_bipush (v := (18 : Int32)) hx hb dX11_fact_187 (by decide) ?_
                  refine x_ald (j := 18) C hw ic1_1 (x_inl rfl) rfl dX11_fact_189 ?_
                  exact ret hf dX11_fact_190 hw
                · have hf := x_iP hf q_27
                  refine lv_ldc hx hb hown (hB _ mk_X11_61) dX11_fact_89 ?_
                  exact ret hf dX11_fact_91 hw
              · have hf := x_iP hf q_25
                refine lv_ldc hx hb hown (hB _ mk_X11_60) dX11_fact_74 ?_
                exact ret hf dX11_fact_76 hw
          refine lv_icmp_ne (tgt := 54) hx hb dX11_fact_46 (by decide) (fun q_47 => ?_) (fun q_47 => ?_)
          · have hf := x_iN hf q_47
            refine lv_ldc hx hb hown (hB _ mk_X11_70) dX11_fact_54 ?_
            exact hk56_16 _ _ _ _ _ (lv_sub hl [0, 1, 2, 3, 4, 5] rfl) hw hf
          · have hf := x_iP hf q_47
            refine lv_bipush (v := (9 : Int32)) hx hb dX11_fact_49 (by decide) ?_
            refine lv_goto (tgt := 56) hx hb dX11_fact_51 (by decide) ?_
            exact hk56_16 _ _ _ _ _ (lv_sub hl [0, 1, 2, 3, 4, 5] rfl) hw hf
        refine lv_icmp_ne (tgt := 41) hx hb dX11_fact_28 (by decide) (fun q_48 => ?_) (fun q_48 => ?_)
        · have hf := x_iN hf q_48
          exact hk41_13 _ _ _ _ (lv_sub hl [0, 1, 2, 3, 4, 5] rfl) hw hf
        · have hf := x_iP hf q_48
          refine lv_iload_n hx hb dX11_fact_31 rfl (lv_at hl 2 rfl) ?_
          refine lv_iconst (v := (1 : Int32)) hx hb dX11_fact_32 (by decide) ?_
          refine lv_icmp_eq (tgt := 74) hx hb dX11_fact_33 (by decide) (fun q_49 => ?_) (fun q_49 => ?_)
          · have hf := x_iP hf q_49
            refine lv_ldc hx hb hown (hB _ mk_X11_60) dX11_fact_74 ?_
            exact ret hf dX11_fact_76 hw
          · have hf := x_iN hf q_49
            refine lv_iload_n hx hb dX11_fact_36 rfl (lv_at hl 2 rfl) ?_
            refine lv_iconst (v := (3 : Int32)) hx hb dX11_fact_37 (by decide) ?_
            refine lv_icmp_eq (tgt := 74) hx hb dX11_fact_38 (by decide) (fun q_50 => ?_) (fun q_50 => ?_)
            · have hf := x_iP hf q_50
              refine lv_ldc hx hb hown (hB _ mk_X11_60) dX11_fact_74 ?_
              exact ret hf dX11_fact_76 hw
            · have hf := x_iN hf q_50
              exact hk41_13 _ _ _ _ (lv_sub hl [0, 1, 2, 3, 4, 5] rfl) hw hf
noncomputable def fX11_whatOf_L6 (a1 : Int32) (a2 : Int32) (a3 : Int32) (a4 : Int32) (k188_2 : xM → Int32 → Option (Int32 × xM)) : Nat → xM → Int32 → Int32 → Option (Int32 × xM)
  | 0, _, _, _ => none
  | n_11 + 1, M_10, x5_8, x6_9 => if (M_10 1 18) ≤ x6_9 then (k188_2 M_10 x5_8) else (x_l ((66 : Int32) + ((6 : Int32) * x6_9)) fun x7_15 => x_g x7_15 1675 (x_l (fun (M_19 : xM) (x5_17 : Int32) => x_l (x6_9 + (1 : Int32)) fun x6_20 => fX11_whatOf_L6 a1 a2 a3 a4 k188_2 n_11 M_19 x5_17 x6_20) fun k182_18 => if (M_10 1 x7_15.toNatClampNeg) = a1 then (x_g (x7_15 + (1 : Int32)) 1675 (if (M_10 1 (x7_15 + (1 : Int32)).toNatClampNeg) = a2 then (x_g (x7_15 + (4 : Int32)) 1675 (if a3 < (M_10 1 (x7_15 + (4 : Int32)).toNatClampNeg) then (k182_18 M_10 x5_8) else (x_g (x7_15 + (5 : Int32)) 1675 (if (M_10 1 (x7_15 + (5 : Int32)).toNatClampNeg) ≤ a4 then (x_l ((66 : Int32) + ((6 : Int32) * x5_8)) fun x8_28 => x_l (fun (M_31 : xM) (z_29 : Int32) => x_l (fun (M_34 : xM) (z_32 : Int32) => k182_18 M_34 z_32) fun k180_33 => if z_29 = 0 then (k180_33 M_31 x5_8) else (k180_33 M_31 x6_9)) fun k166_30 => x_l (fun (M_37 : xM) => k166_30 M_37 (1 : Int32)) fun k161_36 => if x5_8 = (-1 : Int32) then (k161_36 M_10) else (x_g (x7_15 + (2 : Int32)) 1675 (x_g (x8_28 + (2 : Int32)) 1675 (if (M_10 1 (x8_28 + (2 : Int32)).toNatClampNeg) < (M_10 1 (x7_15 + (2 : Int32)).toNatClampNeg) then (k161_36 M_10) else (x_g (x7_15 + (2 : Int32)) 1675 (x_g (x8_28 + (2 : Int32)) 1675 (x_l (fun (M_45 : xM) => k166_30 M_45 (0 : Int32)) fun k165_44 => if (M_10 1 (x7_15 + (2 : Int32)).toNatClampNeg) = (M_10 1 (x8_28 + (2 : Int32)).toNatClampNeg) then (x_g (x7_15 + (4 : Int32)) 1675 (x_g (x8_28 + (4 : Int32)) 1675 (if (M_10 1 (x7_15 + (4 : Int32)).toNatClampNeg) < (M_10 1 (x8_28 + (4 : Int32)).toNatClampNeg) then (k165_44 M_10) else (k161_36 M_10)))) else (k165_44 M_10)))))))) else (k182_18 M_10 x5_8))))) else (k182_18 M_10 x5_8))) else (k182_18 M_10 x5_8)))
noncomputable def fX11_whatOf (M : xM) (a1 : Int32) (a2 : Int32) (a3 : Int32) (a4 : Int32) : Option (Int32 × xM) := x_l (fun (M_3 : xM) (x5_1 : Int32) => if x5_1 = (-1 : Int32) then (if a2 = 0 then (some ((M_3 1 1), M_3)) else (some ((0 : Int32), M_3))) else (x_g (((66 : Int32) + ((6 : Int32) * x5_1)) + (3 : Int32)) 1675 (some ((M_3 1 (((66 : Int32) + ((6 : Int32) * x5_1)) + (3 : Int32)).toNatClampNeg), M_3)))) fun k188_2 => fX11_whatOf_L6 a1 a2 a3 a4 k188_2 x_FU M (-1 : Int32) (0 : Int32)
set_option maxRecDepth 100000 in
set_option maxHeartbeats 4000000 in
theorem mX11_whatOf (l : Launch) (g : xG) {a1 : Int32} {a2 : Int32} {a3 : Int32} {a4 : Int32} {r : Int32} {M' : xM}  {M : xM} (hf : fX11_whatOf M a1 a2 a3 a4 = some (r, M')) : x_cI l g 1 yX11_whatOf cX11_whatOf 10 .int 0 0 [.ref (g.2.2.1 0), .int a1, .int a2, .int a3, .int a4] M (fun v N => v = r ∧ N = M') := by
  refine x_stI RX11 (by decide) rfl (Nat.le_of_ble_eq_true rfl) ?_
  intro p e s m args below meth c Q ls C hw ret hl
  obtain ⟨hx, hb, hml, hown, hB, -⟩ := id C
  have hl : lv_has ls 10 [(0, .ref (g.2.2.1 0)), (1, .int a1), (2, .int a2), (3, .int a3), (4, .int a4)] := hl
  unfold fX11_whatOf at hf
  refine lv_iconst (v := (-1 : Int32)) hx hb dX11_whatOf_0 (by decide) ?_
  refine lv_istore (lv' := [(5, .int (-1 : Int32)), (0, .ref (g.2.2.1 0)), (1, .int a1), (2, .int a2), (3, .int a3), (4, .int a4)]) hx hb dX11_whatOf_1 hl (by decide) rfl (fun ls hl => ?_)
  refine lv_iconst (v := (0 : Int32)) hx hb dX11_whatOf_3 (by decide) ?_
  refine lv_istore (lv' := [(6, .int (0 : Int32)), (5, .int (-1 : Int32)), (0, .ref (g.2.2.1 0)), (1, .int a1), (2, .int a2), (3, .int a3), (4, .int a4)]) hx hb dX11_whatOf_4 hl (by decide) rfl (fun ls hl => ?_)
  obtain ⟨k188_2, ek188_2, hf⟩ := x_jE hf
  have hk188_2 : ∀ (H : Heap) (locs : List Loc) (M_3 : xM) (x5_1 : Int32) (ls : Array Slot) , lv_has ls 10 [(0, .ref (g.2.2.1 0)), (2, .int a2), (5, .int x5_1)] → x_w g 1 s H locs M_3 → k188_2 M_3 x5_1 = some (r, M') → W p l e (x_rm 0 0) s m args below meth c H locs 0 0 Q (F0 m 188 ls []) := by
    intro H locs M_3 x5_1 ls  hl hw hf
    rw [ek188_2] at hf
    refine lv_iload hx hb dX11_whatOf_188 (lv_at hl 2 rfl) ?_
    refine lv_iconst (v := (-1 : Int32)) hx hb dX11_whatOf_190 (by decide) ?_
    refine lv_icmp_ne (tgt := 211) hx hb dX11_whatOf_191 (by decide) (fun q_4 => ?_) (fun q_4 => ?_)
    · have hf := x_iN hf q_4
      refine lv_aload_n hx hb dX11_whatOf_211 rfl (lv_at hl 0 rfl) ?_
      refine fg_X11_7 (k2 := 1) C hw ic1_0 rfl dX11_whatOf_212 ?_
      refine lv_bipush (v := (66 : Int32)) hx hb dX11_whatOf_215 (by decide) ?_
      refine lv_bipush (v := (6 : Int32)) hx hb dX11_whatOf_217 (by decide) ?_
      refine lv_iload hx hb dX11_whatOf_219 (lv_at hl 2 rfl) ?_
      refine lv_imul hx hb dX11_whatOf_221 ?_
      refine lv_iadd hx hb dX11_whatOf_222 ?_
      refine lv_iconst (v := (3 : Int32)) hx hb dX11_whatOf_223 (by decide) ?_
      refine lv_iadd hx hb dX11_whatOf_224 ?_
      obtain ⟨q_5, hf⟩ := x_gE hf
      refine x_ald C hw ic1_1 q_5 rfl dX11_whatOf_225 ?_
      exact ret hf dX11_whatOf_226 hw
    · have hf := x_iP hf q_4
      refine lv_iload_n hx hb dX11_whatOf_194 rfl (lv_at hl 1 rfl) ?_
      refine lv_if_ne (tgt := 207) hx hb dX11_whatOf_195 (by decide) (fun q_6 => ?_) (fun q_6 => ?_)
      · have hf := x_iN hf q_6
        refine lv_iconst (v := (0 : Int32)) hx hb dX11_whatOf_207 (by decide) ?_
        refine lv_goto (tgt := 226) hx hb dX11_whatOf_208 (by decide) ?_
        exact ret hf dX11_whatOf_226 hw
      · have hf := x_iP hf q_6
        refine lv_aload_n hx hb dX11_whatOf_198 rfl (lv_at hl 0 rfl) ?_
        refine fg_X11_7 (k2 := 1) C hw ic1_0 rfl dX11_whatOf_199 ?_
        refine lv_iconst (v := (1 : Int32)) hx hb dX11_whatOf_202 (by decide) ?_
        refine x_ald (j := 1) C hw ic1_1 (x_inl rfl) rfl dX11_whatOf_203 ?_
        refine lv_goto (tgt := 226) hx hb dX11_whatOf_204 (by decide) ?_
        exact ret hf dX11_whatOf_226 hw
  have hL_50 : ∀ (n_11 : Nat) (H : Heap) (locs : List Loc) (M_10 : xM) (x5_8 : Int32) (x6_9 : Int32) (ls : Array Slot) , lv_has ls 10 [(0, .ref (g.2.2.1 0)), (1, .int a1), (2, .int a2), (3, .int a3), (4, .int a4), (5, .int x5_8), (6, .int x6_9)] → x_w g 1 s H locs M_10 → fX11_whatOf_L6 a1 a2 a3 a4 k188_2 n_11 M_10 x5_8 x6_9 = some (r, M') → W p l e (x_rm 0 0) s m args below meth c H locs 0 0 Q (F0 m 6 ls []) := by
    intro n_11
    induction n_11 with
    | zero =>
      intro H locs M_10 x5_8 x6_9 ls  hl hw hf
      rw [fX11_whatOf_L6] at hf
      cases hf
    | succ n_11 ih_12 =>
      intro H locs M_10 x5_8 x6_9 ls  hl hw hf
      rw [fX11_whatOf_L6] at hf
      refine lv_iload hx hb dX11_whatOf_6 (lv_at hl 6 rfl) ?_
      refine lv_aload_n hx hb dX11_whatOf_8 rfl (lv_at hl 0 rfl) ?_
      refine fg_X11_7 (k2 := 1) C hw ic1_0 rfl dX11_whatOf_9 ?_
      refine lv_bipush (v := (18 : Int32)) hx hb dX11_whatOf_12 (by decide) ?_
      refine x_ald (j := 18) C hw ic1_1 (x_inl rfl) rfl dX11_whatOf_14 ?_
      refine lv_icmp_ge (tgt := 188) hx hb dX11_whatOf_15 (by decide) (fun q_14 => ?_) (fun q_14 => ?_)
      · have hf := x_iP hf q_14
        exact hk188_2 _ _ _ _ _ (lv_sub hl [0, 2, 5] rfl) hw hf
      · have hf := x_iN hf q_14
        refine lv_bipush (v := (66 : Int32)) hx hb dX11_whatOf_18 (by decide) ?_
        refine lv_bipush (v := (6 : Int32)) hx hb dX11_whatOf_20 (by decide) ?_
        refine lv_iload hx hb dX11_whatOf_22 (lv_at hl 6 rfl) ?_
        refine lv_imul hx hb dX11_whatOf_24 ?_
        refine lv_iadd hx hb dX11_whatOf_25 ?_
        refine lv_topi (fun x7_15 ex7_15 => ?_)
        have hf := x_lE ex7_15 hf
        refine lv_istore (lv' := [(7, .int x7_15), (0, .ref (g.2.2.1 0)), (1, .int a1), (2, .int a2), (3, .int a3), (4, .int a4), (5, .int x5_8), (6, .int x6_9)]) hx hb dX11_whatOf_26 hl (by decide) rfl (fun ls hl => ?_)
        refine lv_aload_n hx hb dX11_whatOf_28 rfl (lv_at hl 1 rfl) ?_
        refine fg_X11_7 (k2 := 1) C hw ic1_0 rfl dX11_whatOf_29 ?_
        refine lv_iload hx hb dX11_whatOf_32 (lv_at hl 0 rfl) ?_
        obtain ⟨q_16, hf⟩ := x_gE hf
        refine x_ald C hw ic1_1 q_16 rfl dX11_whatOf_34 ?_
        refine lv_iload_n hx hb dX11_whatOf_35 rfl (lv_at hl 2 rfl) ?_
        obtain ⟨k182_18, ek182_18, hf⟩ := x_jE hf
        have hk182_18 : ∀ (H : Heap) (locs : List Loc) (M_19 : xM) (x5_17 : Int32) (ls : Array Slot) , lv_has ls 10 [(0, .ref (g.2.2.1 0)), (1, .int a1), (2, .int a2), (3, .int a3), (4, .int a4), (6, .int x6_9), (5, .int x5_17)] → x_w g 1 s H locs M_19 → k182_18 M_19 x5_17 = some (r, M') → W p l e (x_rm 0 0) s m args below meth c H locs 0 0 Q (F0 m 182 ls []) := by
          intro H locs M_19 x5_17 ls  hl hw hf
          rw [ek182_18] at hf
          obtain ⟨x6_20, ex6_20⟩ : ∃ z : Int32, z = (x6_9 + (1 : Int32)) := ⟨_, rfl⟩
          have hf := x_lE ex6_20 hf
          refine lv_iinc (v := x6_20) (lv' := [(6, .int x6_20), (0, .ref (g.2.2.1 0)), (1, .int a1), (2, .int a2), (3, .int a3), (4, .int a4), (5, .int x5_17)]) hx hb dX11_whatOf_182 hl (k := 5) rfl (by rw [ex6_20]; rfl) (by decide) rfl (fun ls hl => ?_)
          refine lv_goto (tgt := 6) hx hb dX11_whatOf_185 (by decide) ?_
          exact ih_12 _ _ _ _ _ _ (lv_sub hl [1, 2, 3, 4, 5, 6, 0] rfl) hw hf
        refine lv_icmp_ne (tgt := 182) hx hb dX11_whatOf_36 (by decide) (fun q_21 => ?_) (fun q_21 => ?_)
        · have hf := x_iN hf q_21
          exact hk182_18 _ _ _ _ _ (lv_sub hl [1, 2, 3, 4, 5, 7, 6] rfl) hw hf
        · have hf := x_iP hf q_21
          refine lv_aload_n hx hb dX11_whatOf_39 rfl (lv_at hl 1 rfl) ?_
          refine fg_X11_7 (k2 := 1) C hw ic1_0 rfl dX11_whatOf_40 ?_
          refine lv_iload hx hb dX11_whatOf_43 (lv_at hl 0 rfl) ?_
          refine lv_iconst (v := (1 : Int32)) hx hb dX11_whatOf_45 (by decide) ?_
          refine lv_iadd hx hb dX11_whatOf_46 ?_
          obtain ⟨q_22, hf⟩ := x_gE hf
          refine x_ald C hw ic1_1 q_22 rfl dX11_whatOf_47 ?_
          refine lv_iload_n hx hb dX11_whatOf_48 rfl (lv_at hl 3 rfl) ?_
          refine lv_icmp_ne (tgt := 182) hx hb dX11_whatOf_49 (by decide) (fun q_23 => ?_) (fun q_23 => ?_)
          · have hf := x_iN hf q_23
            exact hk182_18 _ _ _ _ _ (lv_sub hl [1, 2, 3, 4, 5, 7, 6] rfl) hw hf
          · have hf := x_iP hf q_23
            refine lv_aload_n hx hb dX11_whatOf_52 rfl (lv_at hl 1 rfl) ?_
            refine fg_X11_7 (k2 := 1) C hw ic1_0 rfl dX11_whatOf_53 ?_
            refine lv_iload hx hb dX11_whatOf_56 (lv_at hl 0 rfl) ?_
            refine lv_iconst (v := (4 : Int32)) hx hb dX11_whatOf_58 (by decide) ?_
            refine lv_iadd hx hb dX11_whatOf_59 ?_
            obtain ⟨q_24, hf⟩ := x_gE hf
            refine x_ald C hw ic1_1 q_24 rfl dX11_whatOf_60 ?_
            refine lv_iload_n hx hb dX11_whatOf_61 rfl (lv_at hl 4 rfl) ?_
            refine lv_icmp_gt (tgt := 182) hx hb dX11_whatOf_62 (by decide) (fun q_25 => ?_) (fun q_25 => ?_)
            · have hf := x_iP hf q_25
              exact hk182_18 _ _ _ _ _ (lv_sub hl [1, 2, 3, 4, 5, 7, 6] rfl) hw hf
            · have hf := x_iN hf q_25
              refine lv_aload_n hx hb dX11_whatOf_65 rfl (lv_at hl 1 rfl) ?_
              refine fg_X11_7 (k2 := 1) C hw ic1_0 rfl dX11_whatOf_66 ?_
              refine lv_iload hx hb dX11_whatOf_69 (lv_at hl 0 rfl) ?_
              refine lv_iconst (v := (5 : Int32)) hx hb dX11_whatOf_71 (by decide) ?_
              refine lv_iadd hx hb dX11_whatOf_72 ?_
              obtain ⟨q_26, hf⟩ := x_gE hf
              refine x_ald C hw ic1_1 q_26 rfl dX11_whatOf_73 ?_
              refine lv_iload hx hb dX11_whatOf_74 (lv_at hl 5 rfl) ?_
              refine lv_icmp_le (tgt := 82) hx hb dX11_whatOf_76 (by decide) (fun q_27 => ?_) (fun q_27 => ?_)
              · have hf := x_iP hf q_27
                refine lv_bipush (v := (66 : Int32)) hx hb dX11_whatOf_82 (by decide) ?_
                refine lv_bipush (v := (6 : Int32)) hx hb dX11_whatOf_84 (by decide) ?_
                refine lv_iload hx hb dX11_whatOf_86 (lv_at hl 6 rfl) ?_
                refine lv_imul hx hb dX11_whatOf_88 ?_
                refine lv_iadd hx hb dX11_whatOf_89 ?_
                refine lv_topi (fun x8_28 ex8_28 => ?_)
                have hf := x_lE ex8_28 hf
                refine lv_istore (lv' := [(8, .int x8_28), (7, .int x7_15), (0, .ref (g.2.2.1 0)), (1, .int a1), (2, .int a2), (3, .int a3), (4, .int a4), (5, .int x5_8), (6, .int x6_9)]) hx hb dX11_whatOf_90 hl (by decide) rfl (fun ls hl => ?_)
                refine lv_iload hx hb dX11_whatOf_92 (lv_at hl 7 rfl) ?_
                refine lv_iconst (v := (-1 : Int32)) hx hb dX11_whatOf_94 (by decide) ?_
                obtain ⟨k166_30, ek166_30, hf⟩ := x_jE hf
                have hk166_30 : ∀ (H : Heap) (locs : List Loc) (M_31 : xM) (z_29 : Int32) (ls : Array Slot) , lv_has ls 10 [(0, .ref (g.2.2.1 0)), (1, .int a1), (2, .int a2), (3, .int a3), (4, .int a4), (5, .int x5_8), (6, .int x6_9)] → x_w g 1 s H locs M_31 → k166_30 M_31 z_29 = some (r, M') → W p l e (x_rm 0 0) s m args below meth c H locs 0 0 Q (F0 m 166 ls [.int z_29]) := by
                  intro H locs M_31 z_29 ls  hl hw hf
                  rw [ek166_30] at hf
                  refine lv_istore (lv' := [(9, .int z_29), (0, .ref (g.2.2.1 0)), (1, .int a1), (2, .int a2), (3, .int a3), (4, .int a4), (5, .int x5_8), (6, .int x6_9)]) hx hb dX11_whatOf_166 hl (by decide) rfl (fun ls hl => ?_)
                  refine lv_iload hx hb dX11_whatOf_168 (lv_at hl 0 rfl) ?_
                  obtain ⟨k180_33, ek180_33, hf⟩ := x_jE hf
                  have hk180_33 : ∀ (H : Heap) (locs : List Loc) (M_34 : xM) (z_32 : Int32) (ls : Array Slot) , lv_has ls 10 [(0, .ref (g.2.2.1 0)), (1, .int a1), (2, .int a2), (3, .int a3), (4, .int a4), (6, .int x6_9)] → x_w g 1 s H locs M_34 → k180_33 M_34 z_32 = some (r, M') → W p l e (x_rm 0 0) s m args below meth c H locs 0 0 Q (F0 m 180 ls [.int z_32]) := by
                    intro H locs M_34 z_32 ls  hl hw hf
                    rw [ek180_33] at hf
                    refine lv_istore (lv' := [(5, .int z_32), (0, .ref (g.2.2.1 0)), (1, .int a1), (2, .int a2), (3, .int a3), (4, .int a4), (6, .int x6_9)]) hx hb dX11_whatOf_180 hl (by decide) rfl (fun ls hl => ?_)
                    exact hk182_18 _ _ _ _ _ (lv_sub hl [1, 2, 3, 4, 5, 6, 0] rfl) hw hf
                  refine lv_if_eq (tgt := 178) hx hb dX11_whatOf_170 (by decide) (fun q_35 => ?_) (fun q_35 => ?_)
                  · have hf := x_iP hf q_35
                    refine lv_iload hx hb dX11_whatOf_178 (lv_at hl 6 rfl) ?_
                    exact hk180_33 _ _ _ _ _ (lv_sub hl [1, 2, 3, 4, 5, 7] rfl) hw hf
                  · have hf := x_iN hf q_35
                    refine lv_iload hx hb dX11_whatOf_173 (lv_at hl 7 rfl) ?_
                    refine lv_goto (tgt := 180) hx hb dX11_whatOf_175 (by decide) ?_
                    exact hk180_33 _ _ _ _ _ (lv_sub hl [1, 2, 3, 4, 5, 7] rfl) hw hf
                obtain ⟨k161_36, ek161_36, hf⟩ := x_jE hf
                have hk161_36 : ∀ (H : Heap) (locs : List Loc) (M_37 : xM)  (ls : Array Slot) , lv_has ls 10 [(0, .ref (g.2.2.1 0)), (1, .int a1), (2, .int a2), (3, .int a3), (4, .int a4), (5, .int x5_8), (6, .int x6_9)] → x_w g 1 s H locs M_37 → k161_36 M_37 = some (r, M') → W p l e (x_rm 0 0) s m args below meth c H locs 0 0 Q (F0 m 161 ls []) := by
                  intro H locs M_37  ls  hl hw hf
                  rw [ek161_36] at hf
                  refine lv_iconst (v := (1 : Int32)) hx hb dX11_whatOf_161 (by decide) ?_
                  refine lv_goto (tgt := 166) hx hb dX11_whatOf_162 (by decide) ?_
                  exact hk166_30 _ _ _ _ _ (lv_sub hl [0, 1, 2, 3, 4, 5, 6] rfl) hw hf
                refine lv_icmp_eq (tgt := 161) hx hb dX11_whatOf_95 (by decide) (fun q_38 => ?_) (fun q_38 => ?_)
                · have hf := x_iP hf q_38
                  exact hk161_36 _ _ _ _ (lv_sub hl [2, 3, 4, 5, 6, 7, 8] rfl) hw hf
                · have hf := x_iN hf q_38
                  refine lv_aload_n hx hb dX11_whatOf_98 rfl (lv_at hl 2 rfl) ?_
                  refine fg_X11_7 (k2 := 1) C hw ic1_0 rfl dX11_whatOf_99 ?_
                  refine lv_iload hx hb dX11_whatOf_102 (lv_at hl 1 rfl) ?_
                  refine lv_iconst (v := (2 : Int32)) hx hb dX11_whatOf_104 (by decide) ?_
                  refine lv_iadd hx hb dX11_whatOf_105 ?_
                  obtain ⟨q_39, hf⟩ := x_gE hf
                  refine x_ald C hw ic1_1 q_39 rfl dX11_whatOf_106 ?_
                  refine lv_aload_n hx hb dX11_whatOf_107 rfl (lv_at hl 2 rfl) ?_
                  refine fg_X11_7 (k2 := 1) C hw ic1_0 rfl dX11_whatOf_108 ?_
                  refine lv_iload hx hb dX11_whatOf_111 (lv_at hl 0 rfl) ?_
                  refine lv_iconst (v := (2 : Int32)) hx hb dX11_whatOf_113 (by decide) ?_
                  refine lv_iadd hx hb dX11_whatOf_114 ?_
                  obtain ⟨q_40, hf⟩ := x_gE hf
                  refine x_ald C hw ic1_1 q_40 rfl dX11_whatOf_115 ?_
                  refine lv_icmp_gt (tgt := 161) hx hb dX11_whatOf_116 (by decide) (fun q_41 => ?_) (fun q_41 => ?_)
                  · have hf := x_iP hf q_41
                    exact hk161_36 _ _ _ _ (lv_sub hl [2, 3, 4, 5, 6, 7, 8] rfl) hw hf
                  · have hf := x_iN hf q_41
                    refine lv_aload_n hx hb dX11_whatOf_119 rfl (lv_at hl 2 rfl) ?_
                    refine fg_X11_7 (k2 := 1) C hw ic1_0 rfl dX11_whatOf_120 ?_
                    refine lv_iload hx hb dX11_whatOf_123 (lv_at hl 1 rfl) ?_
                    refine lv_iconst (v := (2 : Int32)) hx hb dX11_whatOf_125 (by decide) ?_
                    refine lv_iadd hx hb dX11_whatOf_126 ?_
                    obtain ⟨q_42, hf⟩ := x_gE hf
                    refine x_ald C hw ic1_1 q_42 rfl dX11_whatOf_127 ?_
                    refine lv_aload_n hx hb dX11_whatOf_128 rfl (lv_at hl 2 rfl) ?_
                    refine fg_X11_7 (k2 := 1) C hw ic1_0 rfl dX11_whatOf_129 ?_
                    refine lv_iload hx hb dX11_whatOf_132 (lv_at hl 0 rfl) ?_
                    refine lv_iconst (v := (2 : Int32)) hx hb dX11_whatOf_134 (by decide) ?_
                    refine lv_iadd hx hb dX11_whatOf_135 ?_
                    obtain ⟨q_43, hf⟩ := x_gE hf
                    refine x_ald C hw ic1_1 q_43 rfl dX11_whatOf_136 ?_
                    obtain ⟨k165_44, ek165_44, hf⟩ := x_jE hf
                    have hk165_44 : ∀ (H : Heap) (locs : List Loc) (M_45 : xM)  (ls : Array Slot) , lv_has ls 10 [(0, .ref (g.2.2.1 0)), (1, .int a1), (2, .int a2), (3, .int a3), (4, .int a4), (5, .int x5_8), (6, .int x6_9)] → x_w g 1 s H locs M_45 → k165_44 M_45 = some (r, M') → W p l e (x_rm 0 0) s m args below meth c H locs 0 0 Q (F0 m 165 ls []) := by
                      intro H locs M_45  ls  hl hw hf
                      rw [ek165_44] at hf
                      refine lv_iconst (v := (0 : Int32)) hx hb dX11_whatOf_165 (by decide) ?_
                      exact hk166_30 _ _ _ _ _ (lv_sub hl [0, 1, 2, 3, 4, 5, 6] rfl) hw hf
                    refine lv_icmp_ne (tgt := 165) hx hb dX11_whatOf_137 (by decide) (fun q_46 => ?_) (fun q_46 => ?_)
                    · have hf := x_iN hf q_46
                      exact hk165_44 _ _ _ _ (lv_sub hl [2, 3, 4, 5, 6, 7, 8] rfl) hw hf
                    · have hf := x_iP hf q_46
                      refine lv_aload_n hx hb dX11_whatOf_140 rfl (lv_at hl 2 rfl) ?_
                      refine fg_X11_7 (k2 := 1) C hw ic1_0 rfl dX11_whatOf_141 ?_
                      refine lv_iload hx hb dX11_whatOf_144 (lv_at hl 1 rfl) ?_
                      refine lv_iconst (v := (4 : Int32)) hx hb dX11_whatOf_146 (by decide) ?_
                      refine lv_iadd hx hb dX11_whatOf_147 ?_
                      obtain ⟨q_47, hf⟩ := x_gE hf
                      refine x_ald C hw ic1_1 q_47 rfl dX11_whatOf_148 ?_
                      refine lv_aload_n hx hb dX11_whatOf_149 rfl (lv_at hl 2 rfl) ?_
                      refine fg_X11_7 (k2 := 1) C hw ic1_0 rfl dX11_whatOf_150 ?_
                      refine lv_iload hx hb dX11_whatOf_153 (lv_at hl 0 rfl) ?_
                      refine lv_iconst (v := (4 : Int32)) hx hb dX11_whatOf_155 (by decide) ?_
                      refine lv_iadd hx hb dX11_whatOf_156 ?_
                      obtain ⟨q_48, hf⟩ := x_gE hf
                      refine x_ald C hw ic1_1 q_48 rfl dX11_whatOf_157 ?_
                      refine lv_icmp_lt (tgt := 165) hx hb dX11_whatOf_158 (by decide) (fun q_49 => ?_) (fun q_49 => ?_)
                      · have hf := x_iP hf q_49
                        exact hk165_44 _ _ _ _ (lv_sub hl [2, 3, 4, 5, 6, 7, 8] rfl) hw hf
                      · have hf := x_iN hf q_49
                        exact hk161_36 _ _ _ _ (lv_sub hl [2, 3, 4, 5, 6, 7, 8] rfl) hw hf
              · have hf := x_iN hf q_27
                refine lv_goto (tgt := 182) hx hb dX11_whatOf_79 (by decide) ?_
                exact hk182_18 _ _ _ _ _ (lv_sub hl [1, 2, 3, 4, 5, 7, 6] rfl) hw hf
  exact hL_50 _ _ _ _ _ _ _ (lv_sub hl [2, 3, 4, 5, 6, 1, 0] rfl) hw hf
noncomputable def fX11_ownEarns (M : xM) (a1 : Int32) (a2 : Int32) (a3 : Int32) : Option (Int32 × xM) := x_b (fX11_whatOf M a1 (0 : Int32) a2 a3) fun v_3 M_1 => x_g ((30 : Int32) + ((3 : Int32) * a1)) 1675 (if (M_1 1 ((30 : Int32) + ((3 : Int32) * a1)).toNatClampNeg) = (3 : Int32) then (x_b (fX11_whatOf M_1 a1 (2 : Int32) a2 a3) fun v_8 M_6 => x_b (fX11_more M_6 v_3 (v_8 / (24 : Int32))) fun v_12 M_10 => some (v_12, M_10)) else (some (v_3, M_1)))
set_option maxRecDepth 100000 in
set_option maxHeartbeats 4000000 in
theorem mX11_ownEarns (l : Launch) (g : xG) {a1 : Int32} {a2 : Int32} {a3 : Int32} {r : Int32} {M' : xM}  {M : xM} (hf : fX11_ownEarns M a1 a2 a3 = some (r, M')) : x_cI l g 1 yX11_ownEarns cX11_ownEarns 5 .int 1 29 [.ref (g.2.2.1 0), .int a1, .int a2, .int a3] M (fun v N => v = r ∧ N = M') := by
  refine x_stI RX11 (by decide) rfl (Nat.le_of_ble_eq_true rfl) ?_
  intro p e s m args below meth c Q ls C hw ret hl
  obtain ⟨hx, hb, hml, hown, hB, -⟩ := id C
  have hl : lv_has ls 5 [(0, .ref (g.2.2.1 0)), (1, .int a1), (2, .int a2), (3, .int a3)] := hl
  unfold fX11_ownEarns at hf
  refine lv_aload_n hx hb dX11_ownEarns_0 rfl (lv_at hl 0 rfl) ?_
  refine lv_iload_n hx hb dX11_ownEarns_1 rfl (lv_at hl 1 rfl) ?_
  refine lv_iconst (v := (0 : Int32)) hx hb dX11_ownEarns_2 (by decide) ?_
  refine lv_iload_n hx hb dX11_ownEarns_3 rfl (lv_at hl 2 rfl) ?_
  refine lv_iload_n hx hb dX11_ownEarns_4 rfl (lv_at hl 3 rfl) ?_
  obtain ⟨tv_3, tM_1, c_2, hf⟩ := x_bE hf
  refine x_vI C hw hl.1 [.int a1, .int (0 : Int32), .int a2, .int a3] [] (mX11_whatOf l g c_2) lk_X11_71 ic1_0 (by decide) rfl (by decide) rfl (Nat.le_of_ble_eq_true rfl) ⟨Nat.zero_le _, Nat.zero_le _⟩ dX11_ownEarns_5 (fun v_3 M_1 H locs hN hw => ?_)
  obtain ⟨rfl, rfl⟩ := hN
  refine lv_istore (lv' := [(4, .int v_3), (0, .ref (g.2.2.1 0)), (1, .int a1), (2, .int a2), (3, .int a3)]) hx hb dX11_ownEarns_8 hl (by decide) rfl (fun ls hl => ?_)
  refine lv_aload_n hx hb dX11_ownEarns_10 rfl (lv_at hl 1 rfl) ?_
  refine fg_X11_7 (k2 := 1) C hw ic1_0 rfl dX11_ownEarns_11 ?_
  refine lv_bipush (v := (30 : Int32)) hx hb dX11_ownEarns_14 (by decide) ?_
  refine lv_iconst (v := (3 : Int32)) hx hb dX11_ownEarns_16 (by decide) ?_
  refine lv_iload_n hx hb dX11_ownEarns_17 rfl (lv_at hl 2 rfl) ?_
  refine lv_imul hx hb dX11_ownEarns_18 ?_
  refine lv_iadd hx hb dX11_ownEarns_19 ?_
  obtain ⟨q_4, hf⟩ := x_gE hf
  refine x_ald C hw ic1_1 q_4 rfl dX11_ownEarns_20 ?_
  refine lv_iconst (v := (3 : Int32)) hx hb dX11_ownEarns_21 (by decide) ?_
  refine lv_icmp_ne (tgt := 44) hx hb dX11_ownEarns_22 (by decide) (fun q_5 => ?_) (fun q_5 => ?_)
  · have hf := x_iN hf q_5
    refine lv_iload hx hb dX11_ownEarns_44 (lv_at hl 0 rfl) ?_
    exact ret hf dX11_ownEarns_46 hw
  · have hf := x_iP hf q_5
    refine lv_iload hx hb dX11_ownEarns_25 (lv_at hl 0 rfl) ?_
    refine lv_aload_n hx hb dX11_ownEarns_27 rfl (lv_at hl 1 rfl) ?_
    refine lv_iload_n hx hb dX11_ownEarns_28 rfl (lv_at hl 2 rfl) ?_
    refine lv_iconst (v := (2 : Int32)) hx hb dX11_ownEarns_29 (by decide) ?_
    refine lv_iload_n hx hb dX11_ownEarns_30 rfl (lv_at hl 3 rfl) ?_
    refine lv_iload_n hx hb dX11_ownEarns_31 rfl (lv_at hl 4 rfl) ?_
    obtain ⟨tv_8, tM_6, c_7, hf⟩ := x_bE hf
    refine x_vI C hw hl.1 [.int a1, .int (2 : Int32), .int a2, .int a3] [.int v_3] (mX11_whatOf l g c_7) lk_X11_71 ic1_0 (by decide) rfl (by decide) rfl (Nat.le_of_ble_eq_true rfl) ⟨Nat.zero_le _, Nat.zero_le _⟩ dX11_ownEarns_32 (fun v_8 M_6 H locs hN hw => ?_)
    obtain ⟨rfl, rfl⟩ := hN
    refine lv_bipush (v := (24 : Int32)) hx hb dX11_ownEarns_35 (by decide) ?_
    refine lv_idiv hx hb dX11_ownEarns_37 (by decide) ?_
    obtain ⟨tv_12, tM_10, c_11, hf⟩ := x_bE hf
    refine x_sI C hw hl.1 [.int v_3, .int (v_8 / (24 : Int32))] [] (mX11_more l g c_11) lk_X11_75 (by decide) rfl (Nat.le_of_ble_eq_true rfl) ⟨Nat.zero_le _, Nat.zero_le _⟩ dX11_ownEarns_38 (fun v_12 M_10 H locs hN hw => ?_)
    obtain ⟨rfl, rfl⟩ := hN
    refine lv_goto (tgt := 46) hx hb dX11_ownEarns_41 (by decide) ?_
    exact ret hf dX11_ownEarns_46 hw
noncomputable def fX11_earns (M : xM) (a1 : Int32) (a2 : Int32) (a3 : Int32) : Option (Int32 × xM) := x_g (((30 : Int32) + ((3 : Int32) * a1)) + (1 : Int32)) 1675 (x_l (M 1 (((30 : Int32) + ((3 : Int32) * a1)) + (1 : Int32)).toNatClampNeg) fun x4_2 => x_b (fX11_ownEarns M a1 a2 a3) fun v_5 M_3 => if x4_2 = (-1 : Int32) then (some (v_5, M_3)) else (x_b (fX11_ownEarns M_3 x4_2 a2 a3) fun v_9 M_7 => some (((v_5 + v_9) / (2 : Int32)), M_7)))
set_option maxRecDepth 100000 in
set_option maxHeartbeats 4000000 in
theorem mX11_earns (l : Launch) (g : xG) {a1 : Int32} {a2 : Int32} {a3 : Int32} {r : Int32} {M' : xM}  {M : xM} (hf : fX11_earns M a1 a2 a3 = some (r, M')) : x_cI l g 1 yX11_earns cX11_earns 6 .int 2 53 [.ref (g.2.2.1 0), .int a1, .int a2, .int a3] M (fun v N => v = r ∧ N = M') := by
  refine x_stI RX11 (by decide) rfl (Nat.le_of_ble_eq_true rfl) ?_
  intro p e s m args below meth c Q ls C hw ret hl
  obtain ⟨hx, hb, hml, hown, hB, -⟩ := id C
  have hl : lv_has ls 6 [(0, .ref (g.2.2.1 0)), (1, .int a1), (2, .int a2), (3, .int a3)] := hl
  unfold fX11_earns at hf
  refine lv_aload_n hx hb dX11_earns_0 rfl (lv_at hl 0 rfl) ?_
  refine fg_X11_7 (k2 := 1) C hw ic1_0 rfl dX11_earns_1 ?_
  refine lv_bipush (v := (30 : Int32)) hx hb dX11_earns_4 (by decide) ?_
  refine lv_iconst (v := (3 : Int32)) hx hb dX11_earns_6 (by decide) ?_
  refine lv_iload_n hx hb dX11_earns_7 rfl (lv_at hl 1 rfl) ?_
  refine lv_imul hx hb dX11_earns_8 ?_
  refine lv_iadd hx hb dX11_earns_9 ?_
  refine lv_iconst (v := (1 : Int32)) hx hb dX11_earns_10 (by decide) ?_
  refine lv_iadd hx hb dX11_earns_11 ?_
  obtain ⟨q_1, hf⟩ := x_gE hf
  refine x_ald C hw ic1_1 q_1 rfl dX11_earns_12 ?_
  refine lv_topi (fun x4_2 ex4_2 => ?_)
  have hf := x_lE ex4_2 hf
  refine lv_istore (lv' := [(4, .int x4_2), (0, .ref (g.2.2.1 0)), (1, .int a1), (2, .int a2), (3, .int a3)]) hx hb dX11_earns_13 hl (by decide) rfl (fun ls hl => ?_)
  refine lv_aload_n hx hb dX11_earns_15 rfl (lv_at hl 1 rfl) ?_
  refine lv_iload_n hx hb dX11_earns_16 rfl (lv_at hl 2 rfl) ?_
  refine lv_iload_n hx hb dX11_earns_17 rfl (lv_at hl 3 rfl) ?_
  refine lv_iload_n hx hb dX11_earns_18 rfl (lv_at hl 4 rfl) ?_
  obtain ⟨tv_5, tM_3, c_4, hf⟩ := x_bE hf
  refine x_vI C hw hl.1 [.int a1, .int a2, .int a3] [] (mX11_ownEarns l g c_4) lk_X11_79 ic1_0 (by decide) rfl (by decide) rfl (Nat.le_of_ble_eq_true rfl) ⟨Nat.zero_le _, Nat.zero_le _⟩ dX11_earns_19 (fun v_5 M_3 H locs hN hw => ?_)
  obtain ⟨rfl, rfl⟩ := hN
  refine lv_istore (lv' := [(5, .int v_5), (4, .int x4_2), (0, .ref (g.2.2.1 0)), (1, .int a1), (2, .int a2), (3, .int a3)]) hx hb dX11_earns_22 hl (by decide) rfl (fun ls hl => ?_)
  refine lv_iload hx hb dX11_earns_24 (lv_at hl 1 rfl) ?_
  refine lv_iconst (v := (-1 : Int32)) hx hb dX11_earns_26 (by decide) ?_
  refine lv_icmp_ne (tgt := 35) hx hb dX11_earns_27 (by decide) (fun q_6 => ?_) (fun q_6 => ?_)
  · have hf := x_iN hf q_6
    refine lv_iload hx hb dX11_earns_35 (lv_at hl 0 rfl) ?_
    refine lv_aload_n hx hb dX11_earns_37 rfl (lv_at hl 2 rfl) ?_
    refine lv_iload hx hb dX11_earns_38 (lv_at hl 1 rfl) ?_
    refine lv_iload_n hx hb dX11_earns_40 rfl (lv_at hl 4 rfl) ?_
    refine lv_iload_n hx hb dX11_earns_41 rfl (lv_at hl 5 rfl) ?_
    obtain ⟨tv_9, tM_7, c_8, hf⟩ := x_bE hf
    refine x_vI C hw hl.1 [.int x4_2, .int a2, .int a3] [.int v_5] (mX11_ownEarns l g c_8) lk_X11_79 ic1_0 (by decide) rfl (by decide) rfl (Nat.le_of_ble_eq_true rfl) ⟨Nat.zero_le _, Nat.zero_le _⟩ dX11_earns_42 (fun v_9 M_7 H locs hN hw => ?_)
    obtain ⟨rfl, rfl⟩ := hN
    refine lv_iadd hx hb dX11_earns_45 ?_
    refine lv_iconst (v := (2 : Int32)) hx hb dX11_earns_46 (by decide) ?_
    refine lv_idiv hx hb dX11_earns_47 (by decide) ?_
    exact ret hf dX11_earns_48 hw
  · have hf := x_iP hf q_6
    refine lv_iload hx hb dX11_earns_30 (lv_at hl 0 rfl) ?_
    refine lv_goto (tgt := 48) hx hb dX11_earns_32 (by decide) ?_
    exact ret hf dX11_earns_48 hw
noncomputable def fX11_known (M : xM) (a1 : Int32) (a2 : Int32) (a3 : Int32) (a4 : Int32) : Option (Int32 × xM) := x_b (fX11_isPerson M a1) fun v_3 M_1 => if v_3 = 0 then (some ((-1000000001 : Int32), M_1)) else (x_b (fX11_in M_1 a2 (0 : Int32) (4 : Int32)) fun v_7 M_5 => if v_7 = 0 then (some ((-1000000001 : Int32), M_5)) else (x_b (fX11_in M_5 a3 (0 : Int32) (3000 : Int32)) fun v_11 M_9 => if v_11 = 0 then (some ((-1000000001 : Int32), M_9)) else (x_b (fX11_in M_9 a4 (0 : Int32) (M_9 1 0)) fun v_16 M_14 => if v_16 = 0 then (some ((-1000000001 : Int32), M_14)) else (if a2 = (4 : Int32) then (x_b (fX11_earns M_14 a1 a3 a4) fun v_24 M_22 => some (v_24, M_22)) else (x_b (fX11_whatOf M_14 a1 a2 a3 a4) fun v_21 M_19 => some (v_21, M_19))))))
set_option maxRecDepth 100000 in
set_option maxHeartbeats 4000000 in
theorem mX11_known (l : Launch) (g : xG) {a1 : Int32} {a2 : Int32} {a3 : Int32} {a4 : Int32} {r : Int32} {M' : xM}  {M : xM} (hf : fX11_known M a1 a2 a3 a4 = some (r, M')) : x_cI l g 1 yX11_known cX11_known 5 .int 3 78 [.ref (g.2.2.1 0), .int a1, .int a2, .int a3, .int a4] M (fun v N => v = r ∧ N = M') := by
  refine x_stI RX11 (by decide) rfl (Nat.le_of_ble_eq_true rfl) ?_
  intro p e s m args below meth c Q ls C hw ret hl
  obtain ⟨hx, hb, hml, hown, hB, -⟩ := id C
  have hl : lv_has ls 5 [(0, .ref (g.2.2.1 0)), (1, .int a1), (2, .int a2), (3, .int a3), (4, .int a4)] := hl
  unfold fX11_known at hf
  refine lv_aload_n hx hb dX11_known_0 rfl (lv_at hl 0 rfl) ?_
  refine lv_iload_n hx hb dX11_known_1 rfl (lv_at hl 1 rfl) ?_
  obtain ⟨tv_3, tM_1, c_2, hf⟩ := x_bE hf
  refine x_vI C hw hl.1 [.int a1] [] (mX11_isPerson l g c_2) lk_X11_62 ic1_0 (by decide) rfl (by decide) rfl (Nat.le_of_ble_eq_true rfl) ⟨Nat.zero_le _, Nat.zero_le _⟩ dX11_known_2 (fun v_3 M_1 H locs hN hw => ?_)
  obtain ⟨rfl, rfl⟩ := hN
  refine lv_if_eq (tgt := 43) hx hb dX11_known_5 (by decide) (fun q_4 => ?_) (fun q_4 => ?_)
  · have hf := x_iP hf q_4
    refine lv_ldc hx hb hown (hB _ mk_X11_60) dX11_known_43 ?_
    exact ret hf dX11_known_45 hw
  · have hf := x_iN hf q_4
    refine lv_iload_n hx hb dX11_known_8 rfl (lv_at hl 2 rfl) ?_
    refine lv_iconst (v := (0 : Int32)) hx hb dX11_known_9 (by decide) ?_
    refine lv_iconst (v := (4 : Int32)) hx hb dX11_known_10 (by decide) ?_
    obtain ⟨tv_7, tM_5, c_6, hf⟩ := x_bE hf
    refine x_sI C hw hl.1 [.int a2, .int (0 : Int32), .int (4 : Int32)] [] (mX11_in l g c_6) lk_X11_56 (by decide) rfl (Nat.le_of_ble_eq_true rfl) ⟨Nat.zero_le _, Nat.zero_le _⟩ dX11_known_11 (fun v_7 M_5 H locs hN hw => ?_)
    obtain ⟨rfl, rfl⟩ := hN
    refine lv_if_eq (tgt := 43) hx hb dX11_known_14 (by decide) (fun q_8 => ?_) (fun q_8 => ?_)
    · have hf := x_iP hf q_8
      refine lv_ldc hx hb hown (hB _ mk_X11_60) dX11_known_43 ?_
      exact ret hf dX11_known_45 hw
    · have hf := x_iN hf q_8
      refine lv_iload_n hx hb dX11_known_17 rfl (lv_at hl 3 rfl) ?_
      refine lv_iconst (v := (0 : Int32)) hx hb dX11_known_18 (by decide) ?_
      refine lv_sipush (v := (3000 : Int32)) hx hb dX11_known_19 (by decide) ?_
      obtain ⟨tv_11, tM_9, c_10, hf⟩ := x_bE hf
      refine x_sI C hw hl.1 [.int a3, .int (0 : Int32), .int (3000 : Int32)] [] (mX11_in l g c_10) lk_X11_56 (by decide) rfl (Nat.le_of_ble_eq_true rfl) ⟨Nat.zero_le _, Nat.zero_le _⟩ dX11_known_22 (fun v_11 M_9 H locs hN hw => ?_)
      obtain ⟨rfl, rfl⟩ := hN
      refine lv_if_eq (tgt := 43) hx hb dX11_known_25 (by decide) (fun q_12 => ?_) (fun q_12 => ?_)
      · have hf := x_iP hf q_12
        refine lv_ldc hx hb hown (hB _ mk_X11_60) dX11_known_43 ?_
        exact ret hf dX11_known_45 hw
      · have hf := x_iN hf q_12
        refine lv_iload hx hb dX11_known_28 (lv_at hl 4 rfl) ?_
        refine lv_iconst (v := (0 : Int32)) hx hb dX11_known_30 (by decide) ?_
        refine lv_aload_n hx hb dX11_known_31 rfl (lv_at hl 0 rfl) ?_
        refine fg_X11_7 (k2 := 1) C hw ic1_0 rfl dX11_known_32 ?_
        refine lv_iconst (v := (0 : Int32)) hx hb dX11_known_35 (by decide) ?_
        refine x_ald (j := 0) C hw ic1_1 (x_inl rfl) rfl dX11_known_36 ?_
        obtain ⟨tv_16, tM_14, c_15, hf⟩ := x_bE hf
        refine x_sI C hw hl.1 [.int a4, .int (0 : Int32), .int (M_9 1 0)] [] (mX11_in l g c_15) lk_X11_56 (by decide) rfl (Nat.le_of_ble_eq_true rfl) ⟨Nat.zero_le _, Nat.zero_le _⟩ dX11_known_37 (fun v_16 M_14 H locs hN hw => ?_)
        obtain ⟨rfl, rfl⟩ := hN
        refine lv_if_ne (tgt := 46) hx hb dX11_known_40 (by decide) (fun q_17 => ?_) (fun q_17 => ?_)
        · have hf := x_iN hf q_17
          refine lv_iload_n hx hb dX11_known_46 rfl (lv_at hl 2 rfl) ?_
          refine lv_iconst (v := (4 : Int32)) hx hb dX11_known_47 (by decide) ?_
          refine lv_icmp_ne (tgt := 62) hx hb dX11_known_48 (by decide) (fun q_18 => ?_) (fun q_18 => ?_)
          · have hf := x_iN hf q_18
            refine lv_aload_n hx hb dX11_known_62 rfl (lv_at hl 0 rfl) ?_
            refine lv_iload_n hx hb dX11_known_63 rfl (lv_at hl 1 rfl) ?_
            refine lv_iload_n hx hb dX11_known_64 rfl (lv_at hl 2 rfl) ?_
            refine lv_iload_n hx hb dX11_known_65 rfl (lv_at hl 3 rfl) ?_
            refine lv_iload hx hb dX11_known_66 (lv_at hl 4 rfl) ?_
            obtain ⟨tv_21, tM_19, c_20, hf⟩ := x_bE hf
            refine x_vI C hw hl.1 [.int a1, .int a2, .int a3, .int a4] [] (mX11_whatOf l g c_20) lk_X11_71 ic1_0 (by decide) rfl (by decide) rfl (Nat.le_of_ble_eq_true rfl) ⟨Nat.zero_le _, Nat.zero_le _⟩ dX11_known_68 (fun v_21 M_19 H locs hN hw => ?_)
            obtain ⟨rfl, rfl⟩ := hN
            exact ret hf dX11_known_71 hw
          · have hf := x_iP hf q_18
            refine lv_aload_n hx hb dX11_known_51 rfl (lv_at hl 0 rfl) ?_
            refine lv_iload_n hx hb dX11_known_52 rfl (lv_at hl 1 rfl) ?_
            refine lv_iload_n hx hb dX11_known_53 rfl (lv_at hl 3 rfl) ?_
            refine lv_iload hx hb dX11_known_54 (lv_at hl 4 rfl) ?_
            obtain ⟨tv_24, tM_22, c_23, hf⟩ := x_bE hf
            refine x_vI C hw hl.1 [.int a1, .int a3, .int a4] [] (mX11_earns l g c_23) lk_X11_83 ic1_0 (by decide) rfl (by decide) rfl (Nat.le_of_ble_eq_true rfl) ⟨Nat.zero_le _, Nat.zero_le _⟩ dX11_known_56 (fun v_24 M_22 H locs hN hw => ?_)
            obtain ⟨rfl, rfl⟩ := hN
            refine lv_goto (tgt := 71) hx hb dX11_known_59 (by decide) ?_
            exact ret hf dX11_known_71 hw
        · have hf := x_iP hf q_17
          refine lv_ldc hx hb hown (hB _ mk_X11_60) dX11_known_43 ?_
          exact ret hf dX11_known_45 hw
noncomputable def fX11_custody (M : xM) (a1 : Int32) (a2 : Int32) : Option (Int32 × xM) := x_b (fX11_isPerson M a1) fun v_3 M_1 => if v_3 = 0 then (some ((-1000000001 : Int32), M_1)) else (x_b (fX11_in M_1 a2 (1 : Int32) (999 : Int32)) fun v_7 M_5 => if v_7 = 0 then (some ((-1000000001 : Int32), M_5)) else (x_l (((30 : Int32) + ((3 : Int32) * a1)) + (2 : Int32)) fun x3_9 => x_g x3_9 1675 (if ((M_5 1 x3_9.toNatClampNeg) + a2) ≤ (9999 : Int32) then (x_g x3_9 1675 (x_g x3_9 1675 (x_l (x_up M_5 1 x3_9.toNatClampNeg ((M_5 1 x3_9.toNatClampNeg) + a2)) fun M_14 => x_g x3_9 1675 (some ((M_14 1 x3_9.toNatClampNeg), M_14))))) else (some ((-1000000003 : Int32), M_5)))))
set_option maxRecDepth 100000 in
set_option maxHeartbeats 4000000 in
theorem mX11_custody (l : Launch) (g : xG) {a1 : Int32} {a2 : Int32} {r : Int32} {M' : xM}  {M : xM} (hf : fX11_custody M a1 a2 = some (r, M')) : x_cI l g 1 yX11_custody cX11_custody 4 .int 2 43 [.ref (g.2.2.1 0), .int a1, .int a2] M (fun v N => v = r ∧ N = M') := by
  refine x_stI RX11 (by decide) rfl (Nat.le_of_ble_eq_true rfl) ?_
  intro p e s m args below meth c Q ls C hw ret hl
  obtain ⟨hx, hb, hml, hown, hB, -⟩ := id C
  have hl : lv_has ls 4 [(0, .ref (g.2.2.1 0)), (1, .int a1), (2, .int a2)] := hl
  unfold fX11_custody at hf
  refine lv_aload_n hx hb dX11_custody_0 rfl (lv_at hl 0 rfl) ?_
  refine lv_iload_n hx hb dX11_custody_1 rfl (lv_at hl 1 rfl) ?_
  obtain ⟨tv_3, tM_1, c_2, hf⟩ := x_bE hf
  refine x_vI C hw hl.1 [.int a1] [] (mX11_isPerson l g c_2) lk_X11_62 ic1_0 (by decide) rfl (by decide) rfl (Nat.le_of_ble_eq_true rfl) ⟨Nat.zero_le _, Nat.zero_le _⟩ dX11_custody_2 (fun v_3 M_1 H locs hN hw => ?_)
  obtain ⟨rfl, rfl⟩ := hN
  refine lv_if_eq (tgt := 19) hx hb dX11_custody_5 (by decide) (fun q_4 => ?_) (fun q_4 => ?_)
  · have hf := x_iP hf q_4
    refine lv_ldc hx hb hown (hB _ mk_X11_60) dX11_custody_19 ?_
    exact ret hf dX11_custody_21 hw
  · have hf := x_iN hf q_4
    refine lv_iload_n hx hb dX11_custody_8 rfl (lv_at hl 2 rfl) ?_
    refine lv_iconst (v := (1 : Int32)) hx hb dX11_custody_9 (by decide) ?_
    refine lv_sipush (v := (999 : Int32)) hx hb dX11_custody_10 (by decide) ?_
    obtain ⟨tv_7, tM_5, c_6, hf⟩ := x_bE hf
    refine x_sI C hw hl.1 [.int a2, .int (1 : Int32), .int (999 : Int32)] [] (mX11_in l g c_6) lk_X11_56 (by decide) rfl (Nat.le_of_ble_eq_true rfl) ⟨Nat.zero_le _, Nat.zero_le _⟩ dX11_custody_13 (fun v_7 M_5 H locs hN hw => ?_)
    obtain ⟨rfl, rfl⟩ := hN
    refine lv_if_ne (tgt := 22) hx hb dX11_custody_16 (by decide) (fun q_8 => ?_) (fun q_8 => ?_)
    · have hf := x_iN hf q_8
      refine lv_bipush (v := (30 : Int32)) hx hb dX11_custody_22 (by decide) ?_
      refine lv_iconst (v := (3 : Int32)) hx hb dX11_custody_24 (by decide) ?_
      refine lv_iload_n hx hb dX11_custody_25 rfl (lv_at hl 1 rfl) ?_
      refine lv_imul hx hb dX11_custody_26 ?_
      refine lv_iadd hx hb dX11_custody_27 ?_
      refine lv_iconst (v := (2 : Int32)) hx hb dX11_custody_28 (by decide) ?_
      refine lv_iadd hx hb dX11_custody_29 ?_
      refine lv_topi (fun x3_9 ex3_9 => ?_)
      have hf := x_lE ex3_9 hf
      refine lv_istore_n (lv' := [(3, .int x3_9), (0, .ref (g.2.2.1 0)), (1, .int a1), (2, .int a2)]) hx hb dX11_custody_30 rfl hl (by decide) rfl (fun ls hl => ?_)
      refine lv_aload_n hx hb dX11_custody_31 rfl (lv_at hl 1 rfl) ?_
      refine fg_X11_7 (k2 := 1) C hw ic1_0 rfl dX11_custody_32 ?_
      refine lv_iload_n hx hb dX11_custody_35 rfl (lv_at hl 0 rfl) ?_
      obtain ⟨q_10, hf⟩ := x_gE hf
      refine x_ald C hw ic1_1 q_10 rfl dX11_custody_36 ?_
      refine lv_iload_n hx hb dX11_custody_37 rfl (lv_at hl 3 rfl) ?_
      refine lv_iadd hx hb dX11_custody_38 ?_
      refine lv_sipush (v := (9999 : Int32)) hx hb dX11_custody_39 (by decide) ?_
      refine lv_icmp_le (tgt := 48) hx hb dX11_custody_42 (by decide) (fun q_11 => ?_) (fun q_11 => ?_)
      · have hf := x_iP hf q_11
        refine lv_aload_n hx hb dX11_custody_48 rfl (lv_at hl 1 rfl) ?_
        refine fg_X11_7 (k2 := 1) C hw ic1_0 rfl dX11_custody_49 ?_
        refine lv_iload_n hx hb dX11_custody_52 rfl (lv_at hl 0 rfl) ?_
        refine lv_dup2_11 hx hb dX11_custody_53 rfl rfl ?_
        obtain ⟨q_12, hf⟩ := x_gE hf
        refine x_ald C hw ic1_1 q_12 rfl dX11_custody_54 ?_
        refine lv_iload_n hx hb dX11_custody_55 rfl (lv_at hl 3 rfl) ?_
        refine lv_iadd hx hb dX11_custody_56 ?_
        obtain ⟨q_13, hf⟩ := x_gE hf
        refine x_ast C hw ic1_1 q_13 rfl dX11_custody_57 (fun H locs hw => ?_)
        obtain ⟨M_14, eM_14⟩ : ∃ z, z = (x_up M_5 1 x3_9.toNatClampNeg ((M_5 1 x3_9.toNatClampNeg) + a2)) := ⟨_, rfl⟩
        rw [← eM_14] at hw
        have hf := x_lE eM_14 hf
        refine lv_aload_n hx hb dX11_custody_58 rfl (lv_at hl 1 rfl) ?_
        refine fg_X11_7 (k2 := 1) C hw ic1_0 rfl dX11_custody_59 ?_
        refine lv_iload_n hx hb dX11_custody_62 rfl (lv_at hl 0 rfl) ?_
        obtain ⟨q_15, hf⟩ := x_gE hf
        refine x_ald C hw ic1_1 q_15 rfl dX11_custody_63 ?_
        exact ret hf dX11_custody_64 hw
      · have hf := x_iN hf q_11
        refine lv_ldc hx hb hown (hB _ mk_X11_61) dX11_custody_45 ?_
        exact ret hf dX11_custody_47 hw
    · have hf := x_iP hf q_8
      refine lv_ldc hx hb hown (hB _ mk_X11_60) dX11_custody_19 ?_
      exact ret hf dX11_custody_21 hw
noncomputable def fX11_days (M : xM) (a1 : Int32) : Option (Int32 × xM) := x_b (fX11_in M a1 (1 : Int32) (100 : Int32)) fun v_3 M_1 => if v_3 = 0 then (some ((-1000000001 : Int32), M_1)) else (if ((M_1 1 0) + a1) ≤ (3000 : Int32) then (x_l (x_up M_1 1 0 ((M_1 1 0) + a1)) fun M_9 => some ((M_9 1 0), M_9)) else (some ((-1000000001 : Int32), M_1)))
set_option maxRecDepth 100000 in
set_option maxHeartbeats 4000000 in
theorem mX11_days (l : Launch) (g : xG) {a1 : Int32} {r : Int32} {M' : xM}  {M : xM} (hf : fX11_days M a1 = some (r, M')) : x_cI l g 1 yX11_days cX11_days 2 .int 1 22 [.ref (g.2.2.1 0), .int a1] M (fun v N => v = r ∧ N = M') := by
  refine x_stI RX11 (by decide) rfl (Nat.le_of_ble_eq_true rfl) ?_
  intro p e s m args below meth c Q ls C hw ret hl
  obtain ⟨hx, hb, hml, hown, hB, -⟩ := id C
  have hl : lv_has ls 2 [(0, .ref (g.2.2.1 0)), (1, .int a1)] := hl
  unfold fX11_days at hf
  refine lv_iload_n hx hb dX11_days_0 rfl (lv_at hl 1 rfl) ?_
  refine lv_iconst (v := (1 : Int32)) hx hb dX11_days_1 (by decide) ?_
  refine lv_bipush (v := (100 : Int32)) hx hb dX11_days_2 (by decide) ?_
  obtain ⟨tv_3, tM_1, c_2, hf⟩ := x_bE hf
  refine x_sI C hw hl.1 [.int a1, .int (1 : Int32), .int (100 : Int32)] [] (mX11_in l g c_2) lk_X11_56 (by decide) rfl (Nat.le_of_ble_eq_true rfl) ⟨Nat.zero_le _, Nat.zero_le _⟩ dX11_days_4 (fun v_3 M_1 H locs hN hw => ?_)
  obtain ⟨rfl, rfl⟩ := hN
  refine lv_if_eq (tgt := 24) hx hb dX11_days_7 (by decide) (fun q_4 => ?_) (fun q_4 => ?_)
  · have hf := x_iP hf q_4
    refine lv_ldc hx hb hown (hB _ mk_X11_60) dX11_days_24 ?_
    exact ret hf dX11_days_26 hw
  · have hf := x_iN hf q_4
    refine lv_aload_n hx hb dX11_days_10 rfl (lv_at hl 0 rfl) ?_
    refine fg_X11_7 (k2 := 1) C hw ic1_0 rfl dX11_days_11 ?_
    refine lv_iconst (v := (0 : Int32)) hx hb dX11_days_14 (by decide) ?_
    refine x_ald (j := 0) C hw ic1_1 (x_inl rfl) rfl dX11_days_15 ?_
    refine lv_iload_n hx hb dX11_days_16 rfl (lv_at hl 1 rfl) ?_
    refine lv_iadd hx hb dX11_days_17 ?_
    refine lv_sipush (v := (3000 : Int32)) hx hb dX11_days_18 (by decide) ?_
    refine lv_icmp_le (tgt := 27) hx hb dX11_days_21 (by decide) (fun q_6 => ?_) (fun q_6 => ?_)
    · have hf := x_iP hf q_6
      refine lv_aload_n hx hb dX11_days_27 rfl (lv_at hl 0 rfl) ?_
      refine fg_X11_7 (k2 := 1) C hw ic1_0 rfl dX11_days_28 ?_
      refine lv_iconst (v := (0 : Int32)) hx hb dX11_days_31 (by decide) ?_
      refine lv_dup2_11 hx hb dX11_days_32 rfl rfl ?_
      refine x_ald (j := 0) C hw ic1_1 (x_inl rfl) rfl dX11_days_33 ?_
      refine lv_iload_n hx hb dX11_days_34 rfl (lv_at hl 1 rfl) ?_
      refine lv_iadd hx hb dX11_days_35 ?_
      refine x_ast (j := 0) C hw ic1_1 (x_inl rfl) rfl dX11_days_36 (fun H locs hw => ?_)
      obtain ⟨M_9, eM_9⟩ : ∃ z, z = (x_up M_1 1 0 ((M_1 1 0) + a1)) := ⟨_, rfl⟩
      rw [← eM_9] at hw
      have hf := x_lE eM_9 hf
      refine lv_aload_n hx hb dX11_days_37 rfl (lv_at hl 0 rfl) ?_
      refine fg_X11_7 (k2 := 1) C hw ic1_0 rfl dX11_days_38 ?_
      refine lv_iconst (v := (0 : Int32)) hx hb dX11_days_41 (by decide) ?_
      refine x_ald (j := 0) C hw ic1_1 (x_inl rfl) rfl dX11_days_42 ?_
      exact ret hf dX11_days_43 hw
    · have hf := x_iN hf q_6
      refine lv_ldc hx hb hown (hB _ mk_X11_60) dX11_days_24 ?_
      exact ret hf dX11_days_26 hw
noncomputable def fX11_mostOf (M : xM) (a1 : Int32) : Option (Int32 × xM) := if a1 = (0 : Int32) then (some ((99999 : Int32), M)) else (if a1 = (1 : Int32) then (some ((3000 : Int32), M)) else (if a1 = (2 : Int32) then (some ((999 : Int32), M)) else (if a1 = (3 : Int32) then (some ((999 : Int32), M)) else (if a1 = (4 : Int32) then (some ((100 : Int32), M)) else (if a1 = (5 : Int32) then (some ((9999 : Int32), M)) else (if a1 = (6 : Int32) then (some ((9999 : Int32), M)) else (if a1 = (7 : Int32) then (some ((9999 : Int32), M)) else (if a1 = (8 : Int32) then (some ((3000 : Int32), M)) else (if a1 = (9 : Int32) then (some ((3000 : Int32), M)) else (if a1 = (10 : Int32) then (some ((100 : Int32), M)) else (if a1 = (11 : Int32) then (some ((3000 : Int32), M)) else (if a1 = (12 : Int32) then (some ((3000 : Int32), M)) else (if a1 = (13 : Int32) then (some ((9999 : Int32), M)) else (if a1 = (14 : Int32) then (some ((100 : Int32), M)) else (some ((9999 : Int32), M))))))))))))))))
set_option maxRecDepth 100000 in
set_option maxHeartbeats 4000000 in
theorem mX11_mostOf (l : Launch) (g : xG) {a1 : Int32} {r : Int32} {M' : xM}  {M : xM} (hf : fX11_mostOf M a1 = some (r, M')) : x_cI l g 1 yX11_mostOf cX11_mostOf 1 .int 0 0 [.int a1] M (fun v N => v = r ∧ N = M') := by
  refine x_stI RX11 (by decide) rfl (Nat.le_of_ble_eq_true rfl) ?_
  intro p e s m args below meth c Q ls C hw ret hl
  obtain ⟨hx, hb, hml, hown, hB, -⟩ := id C
  have hl : lv_has ls 1 [(0, .int a1)] := hl
  unfold fX11_mostOf at hf
  refine lv_iload_n hx hb dX11_mostOf_0 rfl (lv_at hl 0 rfl) ?_
  by_cases q_1 : a1 = (0 : Int32)
  · have hf := x_iP hf q_1
    refine lv_tableIn (off := 75) (tgt := 76) hx hb dX11_mostOf_1 (by rw [q_1]; decide) (by rw [q_1]; decide) (by rw [q_1]; rfl) (by decide) ?_
    refine lv_ldc hx hb hown (hB _ mk_X11_70) dX11_mostOf_76 ?_
    exact ret hf dX11_mostOf_78 hw
  have hf := x_iN hf q_1
  by_cases q_2 : a1 = (1 : Int32)
  · have hf := x_iP hf q_2
    refine lv_tableIn (off := 78) (tgt := 79) hx hb dX11_mostOf_1 (by rw [q_2]; decide) (by rw [q_2]; decide) (by rw [q_2]; rfl) (by decide) ?_
    refine lv_sipush (v := (3000 : Int32)) hx hb dX11_mostOf_79 (by decide) ?_
    exact ret hf dX11_mostOf_82 hw
  have hf := x_iN hf q_2
  by_cases q_3 : a1 = (2 : Int32)
  · have hf := x_iP hf q_3
    refine lv_tableIn (off := 82) (tgt := 83) hx hb dX11_mostOf_1 (by rw [q_3]; decide) (by rw [q_3]; decide) (by rw [q_3]; rfl) (by decide) ?_
    refine lv_sipush (v := (999 : Int32)) hx hb dX11_mostOf_83 (by decide) ?_
    exact ret hf dX11_mostOf_86 hw
  have hf := x_iN hf q_3
  by_cases q_4 : a1 = (3 : Int32)
  · have hf := x_iP hf q_4
    refine lv_tableIn (off := 82) (tgt := 83) hx hb dX11_mostOf_1 (by rw [q_4]; decide) (by rw [q_4]; decide) (by rw [q_4]; rfl) (by decide) ?_
    refine lv_sipush (v := (999 : Int32)) hx hb dX11_mostOf_83 (by decide) ?_
    exact ret hf dX11_mostOf_86 hw
  have hf := x_iN hf q_4
  by_cases q_5 : a1 = (4 : Int32)
  · have hf := x_iP hf q_5
    refine lv_tableIn (off := 86) (tgt := 87) hx hb dX11_mostOf_1 (by rw [q_5]; decide) (by rw [q_5]; decide) (by rw [q_5]; rfl) (by decide) ?_
    refine lv_bipush (v := (100 : Int32)) hx hb dX11_mostOf_87 (by decide) ?_
    exact ret hf dX11_mostOf_89 hw
  have hf := x_iN hf q_5
  by_cases q_6 : a1 = (5 : Int32)
  · have hf := x_iP hf q_6
    refine lv_tableIn (off := 89) (tgt := 90) hx hb dX11_mostOf_1 (by rw [q_6]; decide) (by rw [q_6]; decide) (by rw [q_6]; rfl) (by decide) ?_
    refine lv_sipush (v := (9999 : Int32)) hx hb dX11_mostOf_90 (by decide) ?_
    exact ret hf dX11_mostOf_93 hw
  have hf := x_iN hf q_6
  by_cases q_7 : a1 = (6 : Int32)
  · have hf := x_iP hf q_7
    refine lv_tableIn (off := 89) (tgt := 90) hx hb dX11_mostOf_1 (by rw [q_7]; decide) (by rw [q_7]; decide) (by rw [q_7]; rfl) (by decide) ?_
    refine lv_sipush (v := (9999 : Int32)) hx hb dX11_mostOf_90 (by decide) ?_
    exact ret hf dX11_mostOf_93 hw
  have hf := x_iN hf q_7
  by_cases q_8 : a1 = (7 : Int32)
  · have hf := x_iP hf q_8
    refine lv_tableIn (off := 89) (tgt := 90) hx hb dX11_mostOf_1 (by rw [q_8]; decide) (by rw [q_8]; decide) (by rw [q_8]; rfl) (by decide) ?_
    refine lv_sipush (v := (9999 : Int32)) hx hb dX11_mostOf_90 (by decide) ?_
    exact ret hf dX11_mostOf_93 hw
  have hf := x_iN hf q_8
  by_cases q_9 : a1 = (8 : Int32)
  · have hf := x_iP hf q_9
    refine lv_tableIn (off := 78) (tgt := 79) hx hb dX11_mostOf_1 (by rw [q_9]; decide) (by rw [q_9]; decide) (by rw [q_9]; rfl) (by decide) ?_
    refine lv_sipush (v := (3000 : Int32)) hx hb dX11_mostOf_79 (by decide) ?_
    exact ret hf dX11_mostOf_82 hw
  have hf := x_iN hf q_9
  by_cases q_10 : a1 = (9 : Int32)
  · have hf := x_iP hf q_10
    refine lv_tableIn (off := 78) (tgt := 79) hx hb dX11_mostOf_1 (by rw [q_10]; decide) (by rw [q_10]; decide) (by rw [q_10]; rfl) (by decide) ?_
    refine lv_sipush (v := (3000 : Int32)) hx hb dX11_mostOf_79 (by decide) ?_
    exact ret hf dX11_mostOf_82 hw
  have hf := x_iN hf q_10
  by_cases q_11 : a1 = (10 : Int32)
  · have hf := x_iP hf q_11
    refine lv_tableIn (off := 86) (tgt := 87) hx hb dX11_mostOf_1 (by rw [q_11]; decide) (by rw [q_11]; decide) (by rw [q_11]; rfl) (by decide) ?_
    refine lv_bipush (v := (100 : Int32)) hx hb dX11_mostOf_87 (by decide) ?_
    exact ret hf dX11_mostOf_89 hw
  have hf := x_iN hf q_11
  by_cases q_12 : a1 = (11 : Int32)
  · have hf := x_iP hf q_12
    refine lv_tableIn (off := 78) (tgt := 79) hx hb dX11_mostOf_1 (by rw [q_12]; decide) (by rw [q_12]; decide) (by rw [q_12]; rfl) (by decide) ?_
    refine lv_sipush (v := (3000 : Int32)) hx hb dX11_mostOf_79 (by decide) ?_
    exact ret hf dX11_mostOf_82 hw
  have hf := x_iN hf q_12
  by_cases q_13 : a1 = (12 : Int32)
  · have hf := x_iP hf q_13
    refine lv_tableIn (off := 78) (tgt := 79) hx hb dX11_mostOf_1 (by rw [q_13]; decide) (by rw [q_13]; decide) (by rw [q_13]; rfl) (by decide) ?_
    refine lv_sipush (v := (3000 : Int32)) hx hb dX11_mostOf_79 (by decide) ?_
    exact ret hf dX11_mostOf_82 hw
  have hf := x_iN hf q_13
  by_cases q_14 : a1 = (13 : Int32)
  · have hf := x_iP hf q_14
    refine lv_tableIn (off := 89) (tgt := 90) hx hb dX11_mostOf_1 (by rw [q_14]; decide) (by rw [q_14]; decide) (by rw [q_14]; rfl) (by decide) ?_
    refine lv_sipush (v := (9999 : Int32)) hx hb dX11_mostOf_90 (by decide) ?_
    exact ret hf dX11_mostOf_93 hw
  have hf := x_iN hf q_14
  by_cases q_15 : a1 = (14 : Int32)
  · have hf := x_iP hf q_15
    refine lv_tableIn (off := 86) (tgt := 87) hx hb dX11_mostOf_1 (by rw [q_15]; decide) (by rw [q_15]; decide) (by rw [q_15]; rfl) (by decide) ?_
    refine lv_bipush (v := (100 : Int32)) hx hb dX11_mostOf_87 (by decide) ?_
    exact ret hf dX11_mostOf_89 hw
  have hf := x_iN hf q_15
  have tq_1 := lv_neT (a := 0) q_1 rfl
  have tq_2 := lv_neT (a := 1) q_2 rfl
  have tq_3 := lv_neT (a := 2) q_3 rfl
  have tq_4 := lv_neT (a := 3) q_4 rfl
  have tq_5 := lv_neT (a := 4) q_5 rfl
  have tq_6 := lv_neT (a := 5) q_6 rfl
  have tq_7 := lv_neT (a := 6) q_7 rfl
  have tq_8 := lv_neT (a := 7) q_8 rfl
  have tq_9 := lv_neT (a := 8) q_9 rfl
  have tq_10 := lv_neT (a := 9) q_10 rfl
  have tq_11 := lv_neT (a := 10) q_11 rfl
  have tq_12 := lv_neT (a := 11) q_12 rfl
  have tq_13 := lv_neT (a := 12) q_13 rfl
  have tq_14 := lv_neT (a := 13) q_14 rfl
  have tq_15 := lv_neT (a := 14) q_15 rfl
  refine lv_tableOut (tgt := 90) hx hb dX11_mostOf_1 (by omega) (by decide) ?_
  refine lv_sipush (v := (9999 : Int32)) hx hb dX11_mostOf_90 (by decide) ?_
  exact ret hf dX11_mostOf_93 hw
noncomputable def fX11_rule (M : xM) (a1 : Int32) (a2 : Int32) : Option (Int32 × xM) := x_b (fX11_in M a1 (0 : Int32) (15 : Int32)) fun v_3 M_1 => if v_3 = 0 then (some ((-1000000001 : Int32), M_1)) else (x_b (fX11_mostOf M_1 a1) fun v_7 M_5 => x_b (fX11_in M_5 a2 (0 : Int32) v_7) fun v_10 M_8 => if v_10 = 0 then (some ((-1000000001 : Int32), M_8)) else (x_g ((1 : Int32) + a1) 1675 (x_l (M_8 1 ((1 : Int32) + a1).toNatClampNeg) fun x3_13 => x_g ((1 : Int32) + a1) 1675 (x_l (x_up M_8 1 ((1 : Int32) + a1).toNatClampNeg a2) fun M_15 => some (x3_13, M_15)))))
set_option maxRecDepth 100000 in
set_option maxHeartbeats 4000000 in
theorem mX11_rule (l : Launch) (g : xG) {a1 : Int32} {a2 : Int32} {r : Int32} {M' : xM}  {M : xM} (hf : fX11_rule M a1 a2 = some (r, M')) : x_cI l g 1 yX11_rule cX11_rule 4 .int 1 22 [.ref (g.2.2.1 0), .int a1, .int a2] M (fun v N => v = r ∧ N = M') := by
  refine x_stI RX11 (by decide) rfl (Nat.le_of_ble_eq_true rfl) ?_
  intro p e s m args below meth c Q ls C hw ret hl
  obtain ⟨hx, hb, hml, hown, hB, -⟩ := id C
  have hl : lv_has ls 4 [(0, .ref (g.2.2.1 0)), (1, .int a1), (2, .int a2)] := hl
  unfold fX11_rule at hf
  refine lv_iload_n hx hb dX11_rule_0 rfl (lv_at hl 1 rfl) ?_
  refine lv_iconst (v := (0 : Int32)) hx hb dX11_rule_1 (by decide) ?_
  refine lv_bipush (v := (15 : Int32)) hx hb dX11_rule_2 (by decide) ?_
  obtain ⟨tv_3, tM_1, c_2, hf⟩ := x_bE hf
  refine x_sI C hw hl.1 [.int a1, .int (0 : Int32), .int (15 : Int32)] [] (mX11_in l g c_2) lk_X11_56 (by decide) rfl (Nat.le_of_ble_eq_true rfl) ⟨Nat.zero_le _, Nat.zero_le _⟩ dX11_rule_4 (fun v_3 M_1 H locs hN hw => ?_)
  obtain ⟨rfl, rfl⟩ := hN
  refine lv_if_eq (tgt := 22) hx hb dX11_rule_7 (by decide) (fun q_4 => ?_) (fun q_4 => ?_)
  · have hf := x_iP hf q_4
    refine lv_ldc hx hb hown (hB _ mk_X11_60) dX11_rule_22 ?_
    exact ret hf dX11_rule_24 hw
  · have hf := x_iN hf q_4
    refine lv_iload_n hx hb dX11_rule_10 rfl (lv_at hl 2 rfl) ?_
    refine lv_iconst (v := (0 : Int32)) hx hb dX11_rule_11 (by decide) ?_
    refine lv_iload_n hx hb dX11_rule_12 rfl (lv_at hl 1 rfl) ?_
    obtain ⟨tv_7, tM_5, c_6, hf⟩ := x_bE hf
    refine x_sI C hw hl.1 [.int a1] [.int (0 : Int32), .int a2] (mX11_mostOf l g c_6) lk_X11_86 (by decide) rfl (Nat.le_of_ble_eq_true rfl) ⟨Nat.zero_le _, Nat.zero_le _⟩ dX11_rule_13 (fun v_7 M_5 H locs hN hw => ?_)
    obtain ⟨rfl, rfl⟩ := hN
    obtain ⟨tv_10, tM_8, c_9, hf⟩ := x_bE hf
    refine x_sI C hw hl.1 [.int a2, .int (0 : Int32), .int v_7] [] (mX11_in l g c_9) lk_X11_56 (by decide) rfl (Nat.le_of_ble_eq_true rfl) ⟨Nat.zero_le _, Nat.zero_le _⟩ dX11_rule_16 (fun v_10 M_8 H locs hN hw => ?_)
    obtain ⟨rfl, rfl⟩ := hN
    refine lv_if_ne (tgt := 25) hx hb dX11_rule_19 (by decide) (fun q_11 => ?_) (fun q_11 => ?_)
    · have hf := x_iN hf q_11
      refine lv_aload_n hx hb dX11_rule_25 rfl (lv_at hl 0 rfl) ?_
      refine fg_X11_7 (k2 := 1) C hw ic1_0 rfl dX11_rule_26 ?_
      refine lv_iconst (v := (1 : Int32)) hx hb dX11_rule_29 (by decide) ?_
      refine lv_iload_n hx hb dX11_rule_30 rfl (lv_at hl 1 rfl) ?_
      refine lv_iadd hx hb dX11_rule_31 ?_
      obtain ⟨q_12, hf⟩ := x_gE hf
      refine x_ald C hw ic1_1 q_12 rfl dX11_rule_32 ?_
      refine lv_topi (fun x3_13 ex3_13 => ?_)
      have hf := x_lE ex3_13 hf
      refine lv_istore_n (lv' := [(3, .int x3_13), (0, .ref (g.2.2.1 0)), (1, .int a1), (2, .int a2)]) hx hb dX11_rule_33 rfl hl (by decide) rfl (fun ls hl => ?_)
      refine lv_aload_n hx hb dX11_rule_34 rfl (lv_at hl 1 rfl) ?_
      refine fg_X11_7 (k2 := 1) C hw ic1_0 rfl dX11_rule_35 ?_
      refine lv_iconst (v := (1 : Int32)) hx hb dX11_rule_38 (by decide) ?_
      refine lv_iload_n hx hb dX11_rule_39 rfl (lv_at hl 2 rfl) ?_
      refine lv_iadd hx hb dX11_rule_40 ?_
      refine lv_iload_n hx hb dX11_rule_41 rfl (lv_at hl 3 rfl) ?_
      obtain ⟨q_14, hf⟩ := x_gE hf
      refine x_ast C hw ic1_1 q_14 rfl dX11_rule_42 (fun H locs hw => ?_)
      obtain ⟨M_15, eM_15⟩ : ∃ z, z = (x_up M_8 1 ((1 : Int32) + a1).toNatClampNeg a2) := ⟨_, rfl⟩
      rw [← eM_15] at hw
      have hf := x_lE eM_15 hf
      refine lv_iload_n hx hb dX11_rule_43 rfl (lv_at hl 0 rfl) ?_
      exact ret hf dX11_rule_44 hw
    · have hf := x_iP hf q_11
      refine lv_ldc hx hb hown (hB _ mk_X11_60) dX11_rule_22 ?_
      exact ret hf dX11_rule_24 hw
