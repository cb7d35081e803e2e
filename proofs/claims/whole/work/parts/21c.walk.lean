noncomputable def fX7_workOut_L24 (a2 : Int32) (k176_5 : xM → Int32 → Option (Int32 × xM)) : Nat → xM → Int32 → Int32 → Option (Int32 × xM)
  | 0, _, _, _ => none
  | n_12 + 1, M_11, x3_9, x5_10 => x_g a2 3 (if (M_11 27 a2.toNatClampNeg) ≤ x5_10 then (k176_5 M_11 x3_9) else (x_g x5_10 120 (x_l (M_11 26 x5_10.toNatClampNeg) fun x6_17 => x_l (fun (M_20 : xM) (x3_18 : Int32) => x_l (x5_10 + (1 : Int32)) fun x5_21 => fX7_workOut_L24 a2 k176_5 n_12 M_20 x3_18 x5_21) fun k170_19 => x_l (fun (M_23 : xM) => if x3_9 < (119 : Int32) then (x_l (x3_9 + (1 : Int32)) fun x3_25 => x_l (fun (M_28 : xM) (z_26 : Int32) => x_g x3_25 120 (x_l (x_up M_28 30 x3_25.toNatClampNeg z_26) fun M_30 => k170_19 M_30 x3_25)) fun k95_27 => if x6_17 < 0 then (x_g ((-x6_17) - (97 : Int32)) 26 (k95_27 M_23 (M_23 29 ((-x6_17) - (97 : Int32)).toNatClampNeg))) else (k95_27 M_23 x6_17)) else (some ((0 : Int32), M_23))) fun k58_22 => if 0 ≤ x6_17 then (k58_22 M_11) else (x_b (fX9_isLetter M_11 (-x6_17)) fun v_36 M_34 => if v_36 = 0 then (x_l (fun (M_39 : xM) => if x3_9 < (1 : Int32) then (k170_19 M_39 x3_9) else (x_l (x3_9 + (-1 : Int32)) fun x3_41 => x_g x3_41 120 (x_g (x3_41 + (1 : Int32)) 120 (x_b (fX7_join M_39 (-x6_17) (M_39 30 x3_41.toNatClampNeg) (M_39 30 (x3_41 + (1 : Int32)).toNatClampNeg)) fun v_46 M_44 => x_g x3_41 120 (x_l (x_up M_44 30 x3_41.toNatClampNeg v_46) fun M_48 => k170_19 M_48 x3_41))))) fun k136_38 => if x6_17 = (-33 : Int32) then (if x3_9 < 0 then (k136_38 M_34) else (x_g x3_9 120 (x_l (fun (M_54 : xM) (z_52 : Int32) => x_b (fX10_oneIf M_54 z_52) fun v_57 M_55 => x_g x3_9 120 (x_l (x_up M_55 30 x3_9.toNatClampNeg v_57) fun M_59 => k170_19 M_59 x3_9)) fun k129_53 => if (M_34 30 x3_9.toNatClampNeg) = 0 then (k129_53 M_34 (1 : Int32)) else (k129_53 M_34 (0 : Int32))))) else (k136_38 M_34)) else (k58_22 M_34)))))
noncomputable def fX7_workOut (M : xM) (a2 : Int32) : Option (Int32 × xM) := x_l (fun (M_3 : xM) (z_1 : Int32) => x_l (fun (M_6 : xM) (x3_4 : Int32) => if x3_4 < 0 then (some ((0 : Int32), M_6)) else (x_g x3_4 120 (some ((M_6 30 x3_4.toNatClampNeg), M_6)))) fun k176_5 => fX7_workOut_L24 a2 k176_5 x_FU M_3 (-1 : Int32) z_1) fun k18_2 => if a2 = 0 then (k18_2 M (0 : Int32)) else (x_g (a2 - (1 : Int32)) 3 (k18_2 M (M 27 (a2 - (1 : Int32)).toNatClampNeg)))
set_option maxRecDepth 100000 in
set_option maxHeartbeats 4000000 in
theorem mX7_workOut (l : Launch) (g : xG) {a2 : Int32} {r : Int32} {M' : xM}  {M : xM} (hf : fX7_workOut M a2 = some (r, M')) : x_cI l g 0 yX7_workOut cX7_workOut 7 .int 2 42 [.ref (g.2.2.1 28), .ref (g.2.2.1 25), .int a2] M (fun v N => v = r ∧ N = M') := by
  refine x_stI RX7 (by decide) rfl (Nat.le_of_ble_eq_true rfl) ?_
  intro p e s m args below meth c Q ls C hw ret hl
  obtain ⟨hx, hb, hml, hown, hB, -⟩ := id C
  have hl : lv_has ls 7 [(0, .ref (g.2.2.1 28)), (1, .ref (g.2.2.1 25)), (2, .int a2)] := hl
  unfold fX7_workOut at hf
  refine lv_iconst (v := (-1 : Int32)) hx hb dX7_workOut_0 (by decide) ?_
  refine lv_istore_n (lv' := [(3, .int (-1 : Int32)), (0, .ref (g.2.2.1 28)), (1, .ref (g.2.2.1 25)), (2, .int a2)]) hx hb dX7_workOut_1 rfl hl (by decide) rfl (fun ls hl => ?_)
  refine lv_iload_n hx hb dX7_workOut_2 rfl (lv_at hl 3 rfl) ?_
  obtain ⟨k18_2, ek18_2, hf⟩ := x_jE hf
  have hk18_2 : ∀ (H : Heap) (locs : List Loc) (M_3 : xM) (z_1 : Int32) (ls : Array Slot) , lv_has ls 7 [(3, .int (-1 : Int32)), (0, .ref (g.2.2.1 28)), (1, .ref (g.2.2.1 25)), (2, .int a2)] → x_w g 0 s H locs M_3 → k18_2 M_3 z_1 = some (r, M') → W p l e (x_rm 2 42) s m args below meth c H locs 0 0 Q (F0 m 18 ls [.int z_1]) := by
    intro H locs M_3 z_1 ls  hl hw hf
    rw [ek18_2] at hf
    refine lv_istore (lv' := [(4, .int z_1), (3, .int (-1 : Int32)), (0, .ref (g.2.2.1 28)), (1, .ref (g.2.2.1 25)), (2, .int a2)]) hx hb dX7_workOut_18 hl (by decide) rfl (fun ls hl => ?_)
    refine lv_iload hx hb dX7_workOut_20 (lv_at hl 0 rfl) ?_
    refine lv_istore (lv' := [(5, .int z_1), (4, .int z_1), (3, .int (-1 : Int32)), (0, .ref (g.2.2.1 28)), (1, .ref (g.2.2.1 25)), (2, .int a2)]) hx hb dX7_workOut_22 hl (by decide) rfl (fun ls hl => ?_)
    obtain ⟨k176_5, ek176_5, hf⟩ := x_jE hf
    have hk176_5 : ∀ (H : Heap) (locs : List Loc) (M_6 : xM) (x3_4 : Int32) (ls : Array Slot) , lv_has ls 7 [(0, .ref (g.2.2.1 28)), (3, .int x3_4)] → x_w g 0 s H locs M_6 → k176_5 M_6 x3_4 = some (r, M') → W p l e (x_rm 2 42) s m args below meth c H locs 0 0 Q (F0 m 176 ls []) := by
      intro H locs M_6 x3_4 ls  hl hw hf
      rw [ek176_5] at hf
      refine lv_iload_n hx hb dX7_workOut_176 rfl (lv_at hl 1 rfl) ?_
      refine lv_if_lt (tgt := 189) hx hb dX7_workOut_177 (by decide) (fun q_7 => ?_) (fun q_7 => ?_)
      · have hf := x_iP hf q_7
        refine lv_iconst (v := (0 : Int32)) hx hb dX7_workOut_189 (by decide) ?_
        exact ret hf dX7_workOut_190 hw
      · have hf := x_iN hf q_7
        refine lv_aload_n hx hb dX7_workOut_180 rfl (lv_at hl 0 rfl) ?_
        refine fg_X7_15 (k2 := 30) C hw ic0_28 rfl dX7_workOut_181 ?_
        refine lv_iload_n hx hb dX7_workOut_184 rfl (lv_at hl 1 rfl) ?_
        obtain ⟨q_8, hf⟩ := x_gE hf
        refine x_ald C hw ic0_30 q_8 rfl dX7_workOut_185 ?_
        refine lv_goto (tgt := 190) hx hb dX7_workOut_186 (by decide) ?_
        exact ret hf dX7_workOut_190 hw
    have hL_61 : ∀ (n_12 : Nat) (H : Heap) (locs : List Loc) (M_11 : xM) (x3_9 : Int32) (x5_10 : Int32) (ls : Array Slot) , lv_has ls 7 [(0, .ref (g.2.2.1 28)), (1, .ref (g.2.2.1 25)), (2, .int a2), (3, .int x3_9), (5, .int x5_10)] → x_w g 0 s H locs M_11 → fX7_workOut_L24 a2 k176_5 n_12 M_11 x3_9 x5_10 = some (r, M') → W p l e (x_rm 2 42) s m args below meth c H locs 0 0 Q (F0 m 24 ls []) := by
      intro n_12
      induction n_12 with
      | zero =>
        intro H locs M_11 x3_9 x5_10 ls  hl hw hf
        rw [fX7_workOut_L24] at hf
        cases hf
      | succ n_12 ih_13 =>
        intro H locs M_11 x3_9 x5_10 ls  hl hw hf
        rw [fX7_workOut_L24] at hf
        refine lv_iload hx hb dX7_workOut_24 (lv_at hl 4 rfl) ?_
        refine lv_aload_n hx hb dX7_workOut_26 rfl (lv_at hl 1 rfl) ?_
        refine fg_X7_24 (k2 := 27) C hw ic0_25 rfl dX7_workOut_27 ?_
        refine lv_iload_n hx hb dX7_workOut_30 rfl (lv_at hl 2 rfl) ?_
        obtain ⟨q_14, hf⟩ := x_gE hf
        refine x_ald C hw ic0_27 q_14 rfl dX7_workOut_31 ?_
        refine lv_icmp_ge (tgt := 176) hx hb dX7_workOut_32 (by decide) (fun q_15 => ?_) (fun q_15 => ?_)
        · have hf := x_iP hf q_15
          exact hk176_5 _ _ _ _ _ (lv_sub hl [0, 3] rfl) hw hf
        · have hf := x_iN hf q_15
          refine lv_aload_n hx hb dX7_workOut_35 rfl (lv_at hl 1 rfl) ?_
          refine fg_X7_29 (k2 := 26) C hw ic0_25 rfl dX7_workOut_36 ?_
          refine lv_iload hx hb dX7_workOut_39 (lv_at hl 4 rfl) ?_
          obtain ⟨q_16, hf⟩ := x_gE hf
          refine x_ald C hw ic0_26 q_16 rfl dX7_workOut_41 ?_
          refine lv_topi (fun x6_17 ex6_17 => ?_)
          have hf := x_lE ex6_17 hf
          refine lv_istore (lv' := [(6, .int x6_17), (0, .ref (g.2.2.1 28)), (1, .ref (g.2.2.1 25)), (2, .int a2), (3, .int x3_9), (5, .int x5_10)]) hx hb dX7_workOut_42 hl (by decide) rfl (fun ls hl => ?_)
          refine lv_iload hx hb dX7_workOut_44 (lv_at hl 0 rfl) ?_
          obtain ⟨k170_19, ek170_19, hf⟩ := x_jE hf
          have hk170_19 : ∀ (H : Heap) (locs : List Loc) (M_20 : xM) (x3_18 : Int32) (ls : Array Slot) , lv_has ls 7 [(0, .ref (g.2.2.1 28)), (1, .ref (g.2.2.1 25)), (2, .int a2), (5, .int x5_10), (3, .int x3_18)] → x_w g 0 s H locs M_20 → k170_19 M_20 x3_18 = some (r, M') → W p l e (x_rm 2 42) s m args below meth c H locs 0 0 Q (F0 m 170 ls []) := by
            intro H locs M_20 x3_18 ls  hl hw hf
            rw [ek170_19] at hf
            obtain ⟨x5_21, ex5_21⟩ : ∃ z : Int32, z = (x5_10 + (1 : Int32)) := ⟨_, rfl⟩
            have hf := x_lE ex5_21 hf
            refine lv_iinc (v := x5_21) (lv' := [(5, .int x5_21), (0, .ref (g.2.2.1 28)), (1, .ref (g.2.2.1 25)), (2, .int a2), (3, .int x3_18)]) hx hb dX7_workOut_170 hl (k := 3) rfl (by rw [ex5_21]; rfl) (by decide) rfl (fun ls hl => ?_)
            refine lv_goto (tgt := 24) hx hb dX7_workOut_173 (by decide) ?_
            exact ih_13 _ _ _ _ _ _ (lv_sub hl [1, 2, 3, 4, 0] rfl) hw hf
          obtain ⟨k58_22, ek58_22, hf⟩ := x_jE hf
          have hk58_22 : ∀ (H : Heap) (locs : List Loc) (M_23 : xM)  (ls : Array Slot) , lv_has ls 7 [(6, .int x6_17), (0, .ref (g.2.2.1 28)), (1, .ref (g.2.2.1 25)), (2, .int a2), (3, .int x3_9), (5, .int x5_10)] → x_w g 0 s H locs M_23 → k58_22 M_23 = some (r, M') → W p l e (x_rm 2 42) s m args below meth c H locs 0 0 Q (F0 m 58 ls []) := by
            intro H locs M_23  ls  hl hw hf
            rw [ek58_22] at hf
            refine lv_iload_n hx hb dX7_workOut_58 rfl (lv_at hl 4 rfl) ?_
            refine lv_bipush (v := (119 : Int32)) hx hb dX7_workOut_59 (by decide) ?_
            refine lv_icmp_lt (tgt := 66) hx hb dX7_workOut_61 (by decide) (fun q_24 => ?_) (fun q_24 => ?_)
            · have hf := x_iP hf q_24
              obtain ⟨x3_25, ex3_25⟩ : ∃ z : Int32, z = (x3_9 + (1 : Int32)) := ⟨_, rfl⟩
              have hf := x_lE ex3_25 hf
              refine lv_iinc (v := x3_25) (lv' := [(3, .int x3_25), (6, .int x6_17), (0, .ref (g.2.2.1 28)), (1, .ref (g.2.2.1 25)), (2, .int a2), (5, .int x5_10)]) hx hb dX7_workOut_66 hl (k := 4) rfl (by rw [ex3_25]; rfl) (by decide) rfl (fun ls hl => ?_)
              refine lv_aload_n hx hb dX7_workOut_69 rfl (lv_at hl 2 rfl) ?_
              refine fg_X7_15 (k2 := 30) C hw ic0_28 rfl dX7_workOut_70 ?_
              refine lv_iload_n hx hb dX7_workOut_73 rfl (lv_at hl 0 rfl) ?_
              refine lv_iload hx hb dX7_workOut_74 (lv_at hl 1 rfl) ?_
              obtain ⟨k95_27, ek95_27, hf⟩ := x_jE hf
              have hk95_27 : ∀ (H : Heap) (locs : List Loc) (M_28 : xM) (z_26 : Int32) (ls : Array Slot) , lv_has ls 7 [(3, .int x3_25), (0, .ref (g.2.2.1 28)), (1, .ref (g.2.2.1 25)), (2, .int a2), (5, .int x5_10)] → x_w g 0 s H locs M_28 → k95_27 M_28 z_26 = some (r, M') → W p l e (x_rm 2 42) s m args below meth c H locs 0 0 Q (F0 m 95 ls [.int z_26, .int x3_25, .ref (g.2.2.1 30)]) := by
                intro H locs M_28 z_26 ls  hl hw hf
                rw [ek95_27] at hf
                obtain ⟨q_29, hf⟩ := x_gE hf
                refine x_ast C hw ic0_30 q_29 rfl dX7_workOut_95 (fun H locs hw => ?_)
                obtain ⟨M_30, eM_30⟩ : ∃ z, z = (x_up M_28 30 x3_25.toNatClampNeg z_26) := ⟨_, rfl⟩
                rw [← eM_30] at hw
                have hf := x_lE eM_30 hf
                refine lv_goto (tgt := 170) hx hb dX7_workOut_96 (by decide) ?_
                exact hk170_19 _ _ _ _ _ (lv_sub hl [1, 2, 3, 4, 0] rfl) hw hf
              refine lv_if_lt (tgt := 84) hx hb dX7_workOut_76 (by decide) (fun q_31 => ?_) (fun q_31 => ?_)
              · have hf := x_iP hf q_31
                refine lv_aload_n hx hb dX7_workOut_84 rfl (lv_at hl 2 rfl) ?_
                refine fg_X7_9 (k2 := 29) C hw ic0_28 rfl dX7_workOut_85 ?_
                refine lv_iload hx hb dX7_workOut_88 (lv_at hl 1 rfl) ?_
                refine lv_ineg hx hb dX7_workOut_90 ?_
                refine lv_bipush (v := (97 : Int32)) hx hb dX7_workOut_91 (by decide) ?_
                refine lv_isub hx hb dX7_workOut_93 ?_
                obtain ⟨q_32, hf⟩ := x_gE hf
                refine x_ald C hw ic0_29 q_32 rfl dX7_workOut_94 ?_
                exact hk95_27 _ _ _ _ _ (lv_sub hl [0, 2, 3, 4, 5] rfl) hw hf
              · have hf := x_iN hf q_31
                refine lv_iload hx hb dX7_workOut_79 (lv_at hl 1 rfl) ?_
                refine lv_goto (tgt := 95) hx hb dX7_workOut_81 (by decide) ?_
                exact hk95_27 _ _ _ _ _ (lv_sub hl [0, 2, 3, 4, 5] rfl) hw hf
            · have hf := x_iN hf q_24
              refine lv_iconst (v := (0 : Int32)) hx hb dX7_workOut_64 (by decide) ?_
              exact ret hf dX7_workOut_65 hw
          refine lv_if_ge (tgt := 58) hx hb dX7_workOut_46 (by decide) (fun q_33 => ?_) (fun q_33 => ?_)
          · have hf := x_iP hf q_33
            exact hk58_22 _ _ _ _ (lv_sub hl [0, 1, 2, 3, 4, 5] rfl) hw hf
          · have hf := x_iN hf q_33
            refine lv_iload hx hb dX7_workOut_49 (lv_at hl 0 rfl) ?_
            refine lv_ineg hx hb dX7_workOut_51 ?_
            obtain ⟨tv_36, tM_34, c_35, hf⟩ := x_bE hf
            refine x_sI C hw hl.1 [.int (-x6_17)] [] (mX9_isLetter l g c_35) lk_X7_18 (by decide) rfl (Nat.le_of_ble_eq_true rfl) ⟨Nat.zero_le _, Nat.zero_le _⟩ dX7_workOut_52 (fun v_36 M_34 H locs hN hw => ?_)
            obtain ⟨rfl, rfl⟩ := hN
            refine lv_if_eq (tgt := 99) hx hb dX7_workOut_55 (by decide) (fun q_37 => ?_) (fun q_37 => ?_)
            · have hf := x_iP hf q_37
              refine lv_iload hx hb dX7_workOut_99 (lv_at hl 0 rfl) ?_
              refine lv_bipush (v := (-33 : Int32)) hx hb dX7_workOut_101 (by decide) ?_
              obtain ⟨k136_38, ek136_38, hf⟩ := x_jE hf
              have hk136_38 : ∀ (H : Heap) (locs : List Loc) (M_39 : xM)  (ls : Array Slot) , lv_has ls 7 [(6, .int x6_17), (0, .ref (g.2.2.1 28)), (1, .ref (g.2.2.1 25)), (2, .int a2), (3, .int x3_9), (5, .int x5_10)] → x_w g 0 s H locs M_39 → k136_38 M_39 = some (r, M') → W p l e (x_rm 2 42) s m args below meth c H locs 0 0 Q (F0 m 136 ls []) := by
                intro H locs M_39  ls  hl hw hf
                rw [ek136_38] at hf
                refine lv_iload_n hx hb dX7_workOut_136 rfl (lv_at hl 4 rfl) ?_
                refine lv_iconst (v := (1 : Int32)) hx hb dX7_workOut_137 (by decide) ?_
                refine lv_icmp_lt (tgt := 170) hx hb dX7_workOut_138 (by decide) (fun q_40 => ?_) (fun q_40 => ?_)
                · have hf := x_iP hf q_40
                  exact hk170_19 _ _ _ _ _ (lv_sub hl [1, 2, 3, 5, 4] rfl) hw hf
                · have hf := x_iN hf q_40
                  obtain ⟨x3_41, ex3_41⟩ : ∃ z : Int32, z = (x3_9 + (-1 : Int32)) := ⟨_, rfl⟩
                  have hf := x_lE ex3_41 hf
                  refine lv_iinc (v := x3_41) (lv' := [(3, .int x3_41), (6, .int x6_17), (0, .ref (g.2.2.1 28)), (1, .ref (g.2.2.1 25)), (2, .int a2), (5, .int x5_10)]) hx hb dX7_workOut_141 hl (k := 4) rfl (by rw [ex3_41]; rfl) (by decide) rfl (fun ls hl => ?_)
                  refine lv_aload_n hx hb dX7_workOut_144 rfl (lv_at hl 2 rfl) ?_
                  refine fg_X7_15 (k2 := 30) C hw ic0_28 rfl dX7_workOut_145 ?_
                  refine lv_iload_n hx hb dX7_workOut_148 rfl (lv_at hl 0 rfl) ?_
                  refine lv_iload hx hb dX7_workOut_149 (lv_at hl 1 rfl) ?_
                  refine lv_ineg hx hb dX7_workOut_151 ?_
                  refine lv_aload_n hx hb dX7_workOut_152 rfl (lv_at hl 2 rfl) ?_
                  refine fg_X7_15 (k2 := 30) C hw ic0_28 rfl dX7_workOut_153 ?_
                  refine lv_iload_n hx hb dX7_workOut_156 rfl (lv_at hl 0 rfl) ?_
                  obtain ⟨q_42, hf⟩ := x_gE hf
                  refine x_ald C hw ic0_30 q_42 rfl dX7_workOut_157 ?_
                  refine lv_aload_n hx hb dX7_workOut_158 rfl (lv_at hl 2 rfl) ?_
                  refine fg_X7_15 (k2 := 30) C hw ic0_28 rfl dX7_workOut_159 ?_
                  refine lv_iload_n hx hb dX7_workOut_162 rfl (lv_at hl 0 rfl) ?_
                  refine lv_iconst (v := (1 : Int32)) hx hb dX7_workOut_163 (by decide) ?_
                  refine lv_iadd hx hb dX7_workOut_164 ?_
                  obtain ⟨q_43, hf⟩ := x_gE hf
                  refine x_ald C hw ic0_30 q_43 rfl dX7_workOut_165 ?_
                  obtain ⟨tv_46, tM_44, c_45, hf⟩ := x_bE hf
                  refine x_sI C hw hl.1 [.int (-x6_17), .int (M_39 30 x3_41.toNatClampNeg), .int (M_39 30 (x3_41 + (1 : Int32)).toNatClampNeg)] [.int x3_41, .ref (g.2.2.1 30)] (mX7_join l g c_45) lk_X7_36 (by decide) rfl (Nat.le_of_ble_eq_true rfl) ⟨Nat.zero_le _, Nat.zero_le _⟩ dX7_workOut_166 (fun v_46 M_44 H locs hN hw => ?_)
                  obtain ⟨rfl, rfl⟩ := hN
                  obtain ⟨q_47, hf⟩ := x_gE hf
                  refine x_ast C hw ic0_30 q_47 rfl dX7_workOut_169 (fun H locs hw => ?_)
                  obtain ⟨M_48, eM_48⟩ : ∃ z, z = (x_up M_44 30 x3_41.toNatClampNeg v_46) := ⟨_, rfl⟩
                  rw [← eM_48] at hw
                  have hf := x_lE eM_48 hf
                  exact hk170_19 _ _ _ _ _ (lv_sub hl [2, 3, 4, 5, 0] rfl) hw hf
              refine lv_icmp_ne (tgt := 136) hx hb dX7_workOut_103 (by decide) (fun q_49 => ?_) (fun q_49 => ?_)
              · have hf := x_iN hf q_49
                exact hk136_38 _ _ _ _ (lv_sub hl [0, 1, 2, 3, 4, 5] rfl) hw hf
              · have hf := x_iP hf q_49
                refine lv_iload_n hx hb dX7_workOut_106 rfl (lv_at hl 4 rfl) ?_
                refine lv_if_lt (tgt := 136) hx hb dX7_workOut_107 (by decide) (fun q_50 => ?_) (fun q_50 => ?_)
                · have hf := x_iP hf q_50
                  exact hk136_38 _ _ _ _ (lv_sub hl [0, 1, 2, 3, 4, 5] rfl) hw hf
                · have hf := x_iN hf q_50
                  refine lv_aload_n hx hb dX7_workOut_110 rfl (lv_at hl 1 rfl) ?_
                  refine fg_X7_15 (k2 := 30) C hw ic0_28 rfl dX7_workOut_111 ?_
                  refine lv_iload_n hx hb dX7_workOut_114 rfl (lv_at hl 4 rfl) ?_
                  refine lv_aload_n hx hb dX7_workOut_115 rfl (lv_at hl 1 rfl) ?_
                  refine fg_X7_15 (k2 := 30) C hw ic0_28 rfl dX7_workOut_116 ?_
                  refine lv_iload_n hx hb dX7_workOut_119 rfl (lv_at hl 4 rfl) ?_
                  obtain ⟨q_51, hf⟩ := x_gE hf
                  refine x_ald C hw ic0_30 q_51 rfl dX7_workOut_120 ?_
                  obtain ⟨k129_53, ek129_53, hf⟩ := x_jE hf
                  have hk129_53 : ∀ (H : Heap) (locs : List Loc) (M_54 : xM) (z_52 : Int32) (ls : Array Slot) , lv_has ls 7 [(0, .ref (g.2.2.1 28)), (1, .ref (g.2.2.1 25)), (2, .int a2), (3, .int x3_9), (5, .int x5_10)] → x_w g 0 s H locs M_54 → k129_53 M_54 z_52 = some (r, M') → W p l e (x_rm 2 42) s m args below meth c H locs 0 0 Q (F0 m 129 ls [.int z_52, .int x3_9, .ref (g.2.2.1 30)]) := by
                    intro H locs M_54 z_52 ls  hl hw hf
                    rw [ek129_53] at hf
                    obtain ⟨tv_57, tM_55, c_56, hf⟩ := x_bE hf
                    refine x_nI C hw hl.1 [.int z_52] [.int x3_9, .ref (g.2.2.1 30)] (mX10_oneIf l g c_56) lk_X7_32 (by decide) rfl (Nat.le_of_ble_eq_true rfl) ⟨Nat.zero_le _, Nat.zero_le _⟩ dX7_workOut_129 (fun v_57 M_55 H locs hN hw => ?_)
                    obtain ⟨rfl, rfl⟩ := hN
                    obtain ⟨q_58, hf⟩ := x_gE hf
                    refine x_ast C hw ic0_30 q_58 rfl dX7_workOut_132 (fun H locs hw => ?_)
                    obtain ⟨M_59, eM_59⟩ : ∃ z, z = (x_up M_55 30 x3_9.toNatClampNeg v_57) := ⟨_, rfl⟩
                    rw [← eM_59] at hw
                    have hf := x_lE eM_59 hf
                    refine lv_goto (tgt := 170) hx hb dX7_workOut_133 (by decide) ?_
                    exact hk170_19 _ _ _ _ _ (lv_sub hl [0, 1, 2, 4, 3] rfl) hw hf
                  refine lv_if_ne (tgt := 128) hx hb dX7_workOut_121 (by decide) (fun q_60 => ?_) (fun q_60 => ?_)
                  · have hf := x_iN hf q_60
                    refine lv_iconst (v := (0 : Int32)) hx hb dX7_workOut_128 (by decide) ?_
                    exact hk129_53 _ _ _ _ _ (lv_sub hl [1, 2, 3, 4, 5] rfl) hw hf
                  · have hf := x_iP hf q_60
                    refine lv_iconst (v := (1 : Int32)) hx hb dX7_workOut_124 (by decide) ?_
                    refine lv_goto (tgt := 129) hx hb dX7_workOut_125 (by decide) ?_
                    exact hk129_53 _ _ _ _ _ (lv_sub hl [1, 2, 3, 4, 5] rfl) hw hf
            · have hf := x_iN hf q_37
              exact hk58_22 _ _ _ _ (lv_sub hl [0, 1, 2, 3, 4, 5] rfl) hw hf
    exact hL_61 _ _ _ _ _ _ _ (lv_sub hl [3, 4, 5, 2, 0] rfl) hw hf
  refine lv_if_ne (tgt := 10) hx hb dX7_workOut_3 (by decide) (fun q_62 => ?_) (fun q_62 => ?_)
  · have hf := x_iN hf q_62
    refine lv_aload_n hx hb dX7_workOut_10 rfl (lv_at hl 2 rfl) ?_
    refine fg_X7_24 (k2 := 27) C hw ic0_25 rfl dX7_workOut_11 ?_
    refine lv_iload_n hx hb dX7_workOut_14 rfl (lv_at hl 3 rfl) ?_
    refine lv_iconst (v := (1 : Int32)) hx hb dX7_workOut_15 (by decide) ?_
    refine lv_isub hx hb dX7_workOut_16 ?_
    obtain ⟨q_63, hf⟩ := x_gE hf
    refine x_ald C hw ic0_27 q_63 rfl dX7_workOut_17 ?_
    exact hk18_2 _ _ _ _ _ (lv_sub hl [0, 1, 2, 3] rfl) hw hf
  · have hf := x_iP hf q_62
    refine lv_iconst (v := (0 : Int32)) hx hb dX7_workOut_6 (by decide) ?_
    refine lv_goto (tgt := 18) hx hb dX7_workOut_7 (by decide) ?_
    exact hk18_2 _ _ _ _ _ (lv_sub hl [0, 1, 2, 3] rfl) hw hf
noncomputable def fX8_become_L135 (k0 : Nat) (a1 : Nat) (k164_12 : xM → Option (xM)) : Nat → xM → Int32 → Option (xM)
  | 0, _, _ => none
  | n_28 + 1, M_27, x2_26 => if (M_27 k0 4) ≤ x2_26 then (k164_12 M_27) else (x_g x2_26 (xn 0 (xr 0 k0 8)) (x_g x2_26 (xn 0 (xr 0 a1 8)) (x_v (fX2_become M_27 (xr 0 (xr 0 k0 8) x2_26.toNatClampNeg) (xr 0 (xr 0 a1 8) x2_26.toNatClampNeg)) fun M_37 => x_l (x2_26 + (1 : Int32)) fun x2_39 => fX8_become_L135 k0 a1 k164_12 n_28 M_37 x2_39)))
noncomputable def fX8_become_L104 (k0 : Nat) (a1 : Nat) (k133_10 : xM → Option (xM)) : Nat → xM → Int32 → Option (xM)
  | 0, _, _ => none
  | n_43 + 1, M_42, x2_41 => if (M_42 k0 3) ≤ x2_41 then (k133_10 M_42) else (x_g x2_41 (xn 0 (xr 0 k0 7)) (x_g x2_41 (xn 0 (xr 0 a1 7)) (x_v (fX0_become M_42 (xr 0 (xr 0 k0 7) x2_41.toNatClampNeg) (xr 0 (xr 0 a1 7) x2_41.toNatClampNeg)) fun M_52 => x_l (x2_41 + (1 : Int32)) fun x2_54 => fX8_become_L104 k0 a1 k133_10 n_43 M_52 x2_54)))
noncomputable def fX8_become_L73 (k0 : Nat) (a1 : Nat) (k102_8 : xM → Option (xM)) : Nat → xM → Int32 → Option (xM)
  | 0, _, _ => none
  | n_58 + 1, M_57, x2_56 => if (M_57 k0 2) ≤ x2_56 then (k102_8 M_57) else (x_g x2_56 (xn 0 (xr 0 k0 6)) (x_g x2_56 (xn 0 (xr 0 a1 6)) (x_v (fX1_become M_57 (xr 0 (xr 0 k0 6) x2_56.toNatClampNeg) (xr 0 (xr 0 a1 6) x2_56.toNatClampNeg)) fun M_67 => x_l (x2_56 + (1 : Int32)) fun x2_69 => fX8_become_L73 k0 a1 k102_8 n_58 M_67 x2_69)))
noncomputable def fX8_become_L42 (k0 : Nat) (a1 : Nat) (k71_6 : xM → Option (xM)) : Nat → xM → Int32 → Option (xM)
  | 0, _, _ => none
  | n_73 + 1, M_72, x2_71 => if (M_72 k0 1) ≤ x2_71 then (k71_6 M_72) else (x_g x2_71 (xn 0 (xr 0 k0 5)) (x_g x2_71 (xn 0 (xr 0 a1 5)) (x_v (fX4_become M_72 (xr 0 (xr 0 k0 5) x2_71.toNatClampNeg) (xr 0 (xr 0 a1 5) x2_71.toNatClampNeg)) fun M_82 => x_l (x2_71 + (1 : Int32)) fun x2_84 => fX8_become_L42 k0 a1 k71_6 n_73 M_82 x2_84)))
noncomputable def fX8_become (M : xM) (k0 : Nat) (a1 : Nat) : Option (xM) := x_l (x_up M k0 0 (M a1 0)) fun M_1 => x_l (x_up M_1 k0 1 (M_1 a1 1)) fun M_2 => x_l (x_up M_2 k0 2 (M_2 a1 2)) fun M_3 => x_l (x_up M_3 k0 3 (M_3 a1 3)) fun M_4 => x_l (x_up M_4 k0 4 (M_4 a1 4)) fun M_5 => x_l (fun (M_7 : xM) => x_l (fun (M_9 : xM) => x_l (fun (M_11 : xM) => x_l (fun (M_13 : xM) => x_cp (0 : Int32) (0 : Int32) (16 : Int32) (xn 0 (xr 0 a1 9)) (xn 0 (xr 0 k0 9)) (x_l (x_mv M_13 (xr 0 a1 9) (xr 0 k0 9) (0 : Int32).toNatClampNeg (0 : Int32).toNatClampNeg (16 : Int32).toNatClampNeg) fun M_17 => x_cp (0 : Int32) (0 : Int32) (4 : Int32) (xn 0 (xr 0 a1 10)) (xn 0 (xr 0 k0 10)) (x_l (x_mv M_17 (xr 0 a1 10) (xr 0 k0 10) (0 : Int32).toNatClampNeg (0 : Int32).toNatClampNeg (4 : Int32).toNatClampNeg) fun M_21 => x_v (fX3_become M_21 (xr 0 k0 11) (xr 0 a1 11)) fun M_24 => some M_24))) fun k164_12 => fX8_become_L135 k0 a1 k164_12 x_FU M_11 (0 : Int32)) fun k133_10 => fX8_become_L104 k0 a1 k133_10 x_FU M_9 (0 : Int32)) fun k102_8 => fX8_become_L73 k0 a1 k102_8 x_FU M_7 (0 : Int32)) fun k71_6 => fX8_become_L42 k0 a1 k71_6 x_FU M_5 (0 : Int32)
set_option maxRecDepth 100000 in
set_option maxHeartbeats 4000000 in
theorem mX8_become (l : Launch) (g : xG) {k0 : Nat} {a1 : Nat} {M' : xM} (h0 : x_is 0 k0 8) (ha1 : x_is 0 a1 8) {M : xM} (hf : fX8_become M k0 a1 = some M') : x_cV l g 0 yX8_become cX8_become 3 2 81 [.ref (g.2.2.1 k0), .ref (g.2.2.1 a1)] M (fun N => N = M') := by
  refine x_stV RX8 (by decide) rfl (Nat.le_of_ble_eq_true rfl) ?_
  intro p e s m args below meth c Q ls C hw ret hl
  obtain ⟨hx, hb, hml, hown, hB, -⟩ := id C
  have hl : lv_has ls 3 [(0, .ref (g.2.2.1 k0)), (1, .ref (g.2.2.1 a1))] := hl
  unfold fX8_become at hf
  refine lv_aload_n hx hb dX8_become_0 rfl (lv_at hl 0 rfl) ?_
  refine lv_aload_n hx hb dX8_become_1 rfl (lv_at hl 1 rfl) ?_
  refine fg_X8_9 C hw ha1 dX8_become_2 ?_
  refine fp_X8_9 C hw h0 dX8_become_5 (fun H locs hw => ?_)
  obtain ⟨M_1, eM_1⟩ : ∃ z, z = (x_up M k0 0 (M a1 0)) := ⟨_, rfl⟩
  rw [← eM_1] at hw
  have hf := x_lE eM_1 hf
  refine lv_aload_n hx hb dX8_become_8 rfl (lv_at hl 0 rfl) ?_
  refine lv_aload_n hx hb dX8_become_9 rfl (lv_at hl 1 rfl) ?_
  refine fg_X8_15 C hw ha1 dX8_become_10 ?_
  refine fp_X8_15 C hw h0 dX8_become_13 (fun H locs hw => ?_)
  obtain ⟨M_2, eM_2⟩ : ∃ z, z = (x_up M_1 k0 1 (M_1 a1 1)) := ⟨_, rfl⟩
  rw [← eM_2] at hw
  have hf := x_lE eM_2 hf
  refine lv_aload_n hx hb dX8_become_16 rfl (lv_at hl 0 rfl) ?_
  refine lv_aload_n hx hb dX8_become_17 rfl (lv_at hl 1 rfl) ?_
  refine fg_X8_18 C hw ha1 dX8_become_18 ?_
  refine fp_X8_18 C hw h0 dX8_become_21 (fun H locs hw => ?_)
  obtain ⟨M_3, eM_3⟩ : ∃ z, z = (x_up M_2 k0 2 (M_2 a1 2)) := ⟨_, rfl⟩
  rw [← eM_3] at hw
  have hf := x_lE eM_3 hf
  refine lv_aload_n hx hb dX8_become_24 rfl (lv_at hl 0 rfl) ?_
  refine lv_aload_n hx hb dX8_become_25 rfl (lv_at hl 1 rfl) ?_
  refine fg_X8_21 C hw ha1 dX8_become_26 ?_
  refine fp_X8_21 C hw h0 dX8_become_29 (fun H locs hw => ?_)
  obtain ⟨M_4, eM_4⟩ : ∃ z, z = (x_up M_3 k0 3 (M_3 a1 3)) := ⟨_, rfl⟩
  rw [← eM_4] at hw
  have hf := x_lE eM_4 hf
  refine lv_aload_n hx hb dX8_become_32 rfl (lv_at hl 0 rfl) ?_
  refine lv_aload_n hx hb dX8_become_33 rfl (lv_at hl 1 rfl) ?_
  refine fg_X8_24 C hw ha1 dX8_become_34 ?_
  refine fp_X8_24 C hw h0 dX8_become_37 (fun H locs hw => ?_)
  obtain ⟨M_5, eM_5⟩ : ∃ z, z = (x_up M_4 k0 4 (M_4 a1 4)) := ⟨_, rfl⟩
  rw [← eM_5] at hw
  have hf := x_lE eM_5 hf
  refine lv_iconst (v := (0 : Int32)) hx hb dX8_become_40 (by decide) ?_
  refine lv_istore_n (lv' := [(2, .int (0 : Int32)), (0, .ref (g.2.2.1 k0)), (1, .ref (g.2.2.1 a1))]) hx hb dX8_become_41 rfl hl (by decide) rfl (fun ls hl => ?_)
  obtain ⟨k71_6, ek71_6, hf⟩ := x_jE hf
  have hk71_6 : ∀ (H : Heap) (locs : List Loc) (M_7 : xM)  (ls : Array Slot) , lv_has ls 3 [(0, .ref (g.2.2.1 k0)), (1, .ref (g.2.2.1 a1))] → x_w g 0 s H locs M_7 → k71_6 M_7 = some M' → W p l e (x_rm 2 81) s m args below meth c H locs 0 0 Q (F0 m 71 ls []) := by
    intro H locs M_7  ls  hl hw hf
    rw [ek71_6] at hf
    refine lv_iconst (v := (0 : Int32)) hx hb dX8_become_71 (by decide) ?_
    refine lv_istore_n (lv' := [(2, .int (0 : Int32)), (0, .ref (g.2.2.1 k0)), (1, .ref (g.2.2.1 a1))]) hx hb dX8_become_72 rfl hl (by decide) rfl (fun ls hl => ?_)
    obtain ⟨k102_8, ek102_8, hf⟩ := x_jE hf
    have hk102_8 : ∀ (H : Heap) (locs : List Loc) (M_9 : xM)  (ls : Array Slot) , lv_has ls 3 [(0, .ref (g.2.2.1 k0)), (1, .ref (g.2.2.1 a1))] → x_w g 0 s H locs M_9 → k102_8 M_9 = some M' → W p l e (x_rm 2 81) s m args below meth c H locs 0 0 Q (F0 m 102 ls []) := by
      intro H locs M_9  ls  hl hw hf
      rw [ek102_8] at hf
      refine lv_iconst (v := (0 : Int32)) hx hb dX8_become_102 (by decide) ?_
      refine lv_istore_n (lv' := [(2, .int (0 : Int32)), (0, .ref (g.2.2.1 k0)), (1, .ref (g.2.2.1 a1))]) hx hb dX8_become_103 rfl hl (by decide) rfl (fun ls hl => ?_)
      obtain ⟨k133_10, ek133_10, hf⟩ := x_jE hf
      have hk133_10 : ∀ (H : Heap) (locs : List Loc) (M_11 : xM)  (ls : Array Slot) , lv_has ls 3 [(0, .ref (g.2.2.1 k0)), (1, .ref (g.2.2.1 a1))] → x_w g 0 s H locs M_11 → k133_10 M_11 = some M' → W p l e (x_rm 2 81) s m args below meth c H locs 0 0 Q (F0 m 133 ls []) := by
        intro H locs M_11  ls  hl hw hf
        rw [ek133_10] at hf
        refine lv_iconst (v := (0 : Int32)) hx hb dX8_become_133 (by decide) ?_
        refine lv_istore_n (lv' := [(2, .int (0 : Int32)), (0, .ref (g.2.2.1 k0)), (1, .ref (g.2.2.1 a1))]) hx hb dX8_become_134 rfl hl (by decide) rfl (fun ls hl => ?_)
        obtain ⟨k164_12, ek164_12, hf⟩ := x_jE hf
        have hk164_12 : ∀ (H : Heap) (locs : List Loc) (M_13 : xM)  (ls : Array Slot) , lv_has ls 3 [(0, .ref (g.2.2.1 k0)), (1, .ref (g.2.2.1 a1))] → x_w g 0 s H locs M_13 → k164_12 M_13 = some M' → W p l e (x_rm 2 81) s m args below meth c H locs 0 0 Q (F0 m 164 ls []) := by
          intro H locs M_13  ls  hl hw hf
          rw [ek164_12] at hf
          refine lv_aload_n hx hb dX8_become_164 rfl (lv_at hl 1 rfl) ?_
          refine fg_X8_60 C hw ha1 rfl dX8_become_165 ?_
          have h_14 : x_is 0 (xr 0 a1 9) 12 := x_tr ha1 (by decide) (by decide) rfl (by decide)
          refine lv_iconst (v := (0 : Int32)) hx hb dX8_become_168 (by decide) ?_
          refine lv_aload_n hx hb dX8_become_169 rfl (lv_at hl 0 rfl) ?_
          refine fg_X8_60 C hw h0 rfl dX8_become_170 ?_
          have h_15 : x_is 0 (xr 0 k0 9) 12 := x_tr h0 (by decide) (by decide) rfl (by decide)
          refine lv_iconst (v := (0 : Int32)) hx hb dX8_become_173 (by decide) ?_
          refine lv_bipush (v := (16 : Int32)) hx hb dX8_become_174 (by decide) ?_
          obtain ⟨q_16, hf⟩ := x_cpE hf
          refine cpy_X8_97 C hw hl.1 h_14 h_15 q_16 (Nat.le_of_ble_eq_true rfl) (Nat.le_of_ble_eq_true rfl) dX8_become_176 (fun H locs hw => ?_)
          obtain ⟨M_17, eM_17⟩ : ∃ z, z = (x_mv M_13 (xr 0 a1 9) (xr 0 k0 9) (0 : Int32).toNatClampNeg (0 : Int32).toNatClampNeg (16 : Int32).toNatClampNeg) := ⟨_, rfl⟩
          rw [← eM_17] at hw
          have hf := x_lE eM_17 hf
          refine lv_aload_n hx hb dX8_become_179 rfl (lv_at hl 1 rfl) ?_
          refine fg_X8_63 C hw ha1 rfl dX8_become_180 ?_
          have h_18 : x_is 0 (xr 0 a1 10) 12 := x_tr ha1 (by decide) (by decide) rfl (by decide)
          refine lv_iconst (v := (0 : Int32)) hx hb dX8_become_183 (by decide) ?_
          refine lv_aload_n hx hb dX8_become_184 rfl (lv_at hl 0 rfl) ?_
          refine fg_X8_63 C hw h0 rfl dX8_become_185 ?_
          have h_19 : x_is 0 (xr 0 k0 10) 12 := x_tr h0 (by decide) (by decide) rfl (by decide)
          refine lv_iconst (v := (0 : Int32)) hx hb dX8_become_188 (by decide) ?_
          refine lv_iconst (v := (4 : Int32)) hx hb dX8_become_189 (by decide) ?_
          obtain ⟨q_20, hf⟩ := x_cpE hf
          refine cpy_X8_97 C hw hl.1 h_18 h_19 q_20 (Nat.le_of_ble_eq_true rfl) (Nat.le_of_ble_eq_true rfl) dX8_become_190 (fun H locs hw => ?_)
          obtain ⟨M_21, eM_21⟩ : ∃ z, z = (x_mv M_17 (xr 0 a1 10) (xr 0 k0 10) (0 : Int32).toNatClampNeg (0 : Int32).toNatClampNeg (4 : Int32).toNatClampNeg) := ⟨_, rfl⟩
          rw [← eM_21] at hw
          have hf := x_lE eM_21 hf
          refine lv_aload_n hx hb dX8_become_193 rfl (lv_at hl 0 rfl) ?_
          refine fg_X8_69 C hw h0 rfl dX8_become_194 ?_
          have h_22 : x_is 0 (xr 0 k0 11) 3 := x_tr h0 (by decide) (by decide) rfl (by decide)
          refine lv_aload_n hx hb dX8_become_197 rfl (lv_at hl 1 rfl) ?_
          refine fg_X8_69 C hw ha1 rfl dX8_become_198 ?_
          have h_23 : x_is 0 (xr 0 a1 11) 3 := x_tr ha1 (by decide) (by decide) rfl (by decide)
          obtain ⟨tM_24, c_25, hf⟩ := x_vE hf
          refine x_vV C hw hl.1 [.ref (g.2.2.1 (xr 0 a1 11))] [] (mX3_become l g h_22 h_23 c_25) lk_X8_103 h_22 (by decide) rfl (by decide) rfl (Nat.le_of_ble_eq_true rfl) ⟨Nat.zero_le _, Nat.zero_le _⟩ dX8_become_201 (fun M_24 H locs hN hw => ?_)
          obtain rfl := hN
          exact ret hf dX8_become_204 hw
        have hL_40 : ∀ (n_28 : Nat) (H : Heap) (locs : List Loc) (M_27 : xM) (x2_26 : Int32) (ls : Array Slot) , lv_has ls 3 [(0, .ref (g.2.2.1 k0)), (1, .ref (g.2.2.1 a1)), (2, .int x2_26)] → x_w g 0 s H locs M_27 → fX8_become_L135 k0 a1 k164_12 n_28 M_27 x2_26 = some M' → W p l e (x_rm 2 81) s m args below meth c H locs 0 0 Q (F0 m 135 ls []) := by
          intro n_28
          induction n_28 with
          | zero =>
            intro H locs M_27 x2_26 ls  hl hw hf
            rw [fX8_become_L135] at hf
            cases hf
          | succ n_28 ih_29 =>
            intro H locs M_27 x2_26 ls  hl hw hf
            rw [fX8_become_L135] at hf
            refine lv_iload_n hx hb dX8_become_135 rfl (lv_at hl 2 rfl) ?_
            refine lv_aload_n hx hb dX8_become_136 rfl (lv_at hl 0 rfl) ?_
            refine fg_X8_24 C hw h0 dX8_become_137 ?_
            refine lv_icmp_ge (tgt := 164) hx hb dX8_become_140 (by decide) (fun q_30 => ?_) (fun q_30 => ?_)
            · have hf := x_iP hf q_30
              exact hk164_12 _ _ _ _ (lv_sub hl [0, 1] rfl) hw hf
            · have hf := x_iN hf q_30
              refine lv_aload_n hx hb dX8_become_143 rfl (lv_at hl 0 rfl) ?_
              refine fg_X8_47 C hw h0 rfl dX8_become_144 ?_
              have h_31 : x_is 0 (xr 0 k0 8) 16 := x_tr h0 (by decide) (by decide) rfl (by decide)
              refine lv_iload_n hx hb dX8_become_147 rfl (lv_at hl 2 rfl) ?_
              obtain ⟨q_32, hf⟩ := x_gE hf
              refine x_rld (t := 4) (k2 := (xr 0 (xr 0 k0 8) x2_26.toNatClampNeg)) C hw h_31 (by decide) rfl q_32 rfl dX8_become_148 ?_
              have h_33 : x_is 0 (xr 0 (xr 0 k0 8) x2_26.toNatClampNeg) 2 := x_ta h_31 (by decide) (x_ilt q_32)
              refine lv_aload_n hx hb dX8_become_149 rfl (lv_at hl 1 rfl) ?_
              refine fg_X8_47 C hw ha1 rfl dX8_become_150 ?_
              have h_34 : x_is 0 (xr 0 a1 8) 16 := x_tr ha1 (by decide) (by decide) rfl (by decide)
              refine lv_iload_n hx hb dX8_become_153 rfl (lv_at hl 2 rfl) ?_
              obtain ⟨q_35, hf⟩ := x_gE hf
              refine x_rld (t := 4) (k2 := (xr 0 (xr 0 a1 8) x2_26.toNatClampNeg)) C hw h_34 (by decide) rfl q_35 rfl dX8_become_154 ?_
              have h_36 : x_is 0 (xr 0 (xr 0 a1 8) x2_26.toNatClampNeg) 2 := x_ta h_34 (by decide) (x_ilt q_35)
              obtain ⟨tM_37, c_38, hf⟩ := x_vE hf
              refine x_vV C hw hl.1 [.ref (g.2.2.1 (xr 0 (xr 0 a1 8) x2_26.toNatClampNeg))] [] (mX2_become l g h_33 h_36 c_38) lk_X8_94 h_33 (by decide) rfl (by decide) rfl (Nat.le_of_ble_eq_true rfl) ⟨Nat.zero_le _, Nat.zero_le _⟩ dX8_become_155 (fun M_37 H locs hN hw => ?_)
              obtain rfl := hN
              obtain ⟨x2_39, ex2_39⟩ : ∃ z : Int32, z = (x2_26 + (1 : Int32)) := ⟨_, rfl⟩
              have hf := x_lE ex2_39 hf
              refine lv_iinc (v := x2_39) (lv' := [(2, .int x2_39), (0, .ref (g.2.2.1 k0)), (1, .ref (g.2.2.1 a1))]) hx hb dX8_become_158 hl (k := 2) rfl (by rw [ex2_39]; rfl) (by decide) rfl (fun ls hl => ?_)
              refine lv_goto (tgt := 135) hx hb dX8_become_161 (by decide) ?_
              exact ih_29 _ _ _ _ _ (lv_sub hl [1, 2, 0] rfl) hw hf
        exact hL_40 _ _ _ _ _ _ (lv_sub hl [1, 2, 0] rfl) hw hf
      have hL_55 : ∀ (n_43 : Nat) (H : Heap) (locs : List Loc) (M_42 : xM) (x2_41 : Int32) (ls : Array Slot) , lv_has ls 3 [(0, .ref (g.2.2.1 k0)), (1, .ref (g.2.2.1 a1)), (2, .int x2_41)] → x_w g 0 s H locs M_42 → fX8_become_L104 k0 a1 k133_10 n_43 M_42 x2_41 = some M' → W p l e (x_rm 2 81) s m args below meth c H locs 0 0 Q (F0 m 104 ls []) := by
        intro n_43
        induction n_43 with
        | zero =>
          intro H locs M_42 x2_41 ls  hl hw hf
          rw [fX8_become_L104] at hf
          cases hf
        | succ n_43 ih_44 =>
          intro H locs M_42 x2_41 ls  hl hw hf
          rw [fX8_become_L104] at hf
          refine lv_iload_n hx hb dX8_become_104 rfl (lv_at hl 2 rfl) ?_
          refine lv_aload_n hx hb dX8_become_105 rfl (lv_at hl 0 rfl) ?_
          refine fg_X8_21 C hw h0 dX8_become_106 ?_
          refine lv_icmp_ge (tgt := 133) hx hb dX8_become_109 (by decide) (fun q_45 => ?_) (fun q_45 => ?_)
          · have hf := x_iP hf q_45
            exact hk133_10 _ _ _ _ (lv_sub hl [0, 1] rfl) hw hf
          · have hf := x_iN hf q_45
            refine lv_aload_n hx hb dX8_become_112 rfl (lv_at hl 0 rfl) ?_
            refine fg_X8_41 C hw h0 rfl dX8_become_113 ?_
            have h_46 : x_is 0 (xr 0 k0 7) 14 := x_tr h0 (by decide) (by decide) rfl (by decide)
            refine lv_iload_n hx hb dX8_become_116 rfl (lv_at hl 2 rfl) ?_
            obtain ⟨q_47, hf⟩ := x_gE hf
            refine x_rld (t := 2) (k2 := (xr 0 (xr 0 k0 7) x2_41.toNatClampNeg)) C hw h_46 (by decide) rfl q_47 rfl dX8_become_117 ?_
            have h_48 : x_is 0 (xr 0 (xr 0 k0 7) x2_41.toNatClampNeg) 0 := x_ta h_46 (by decide) (x_ilt q_47)
            refine lv_aload_n hx hb dX8_become_118 rfl (lv_at hl 1 rfl) ?_
            refine fg_X8_41 C hw ha1 rfl dX8_become_119 ?_
            have h_49 : x_is 0 (xr 0 a1 7) 14 := x_tr ha1 (by decide) (by decide) rfl (by decide)
            refine lv_iload_n hx hb dX8_become_122 rfl (lv_at hl 2 rfl) ?_
            obtain ⟨q_50, hf⟩ := x_gE hf
            refine x_rld (t := 2) (k2 := (xr 0 (xr 0 a1 7) x2_41.toNatClampNeg)) C hw h_49 (by decide) rfl q_50 rfl dX8_become_123 ?_
            have h_51 : x_is 0 (xr 0 (xr 0 a1 7) x2_41.toNatClampNeg) 0 := x_ta h_49 (by decide) (x_ilt q_50)
            obtain ⟨tM_52, c_53, hf⟩ := x_vE hf
            refine x_vV C hw hl.1 [.ref (g.2.2.1 (xr 0 (xr 0 a1 7) x2_41.toNatClampNeg))] [] (mX0_become l g h_48 h_51 c_53) lk_X8_91 h_48 (by decide) rfl (by decide) rfl (Nat.le_of_ble_eq_true rfl) ⟨Nat.zero_le _, Nat.zero_le _⟩ dX8_become_124 (fun M_52 H locs hN hw => ?_)
            obtain rfl := hN
            obtain ⟨x2_54, ex2_54⟩ : ∃ z : Int32, z = (x2_41 + (1 : Int32)) := ⟨_, rfl⟩
            have hf := x_lE ex2_54 hf
            refine lv_iinc (v := x2_54) (lv' := [(2, .int x2_54), (0, .ref (g.2.2.1 k0)), (1, .ref (g.2.2.1 a1))]) hx hb dX8_become_127 hl (k := 2) rfl (by rw [ex2_54]; rfl) (by decide) rfl (fun ls hl => ?_)
            refine lv_goto (tgt := 104) hx hb dX8_become_130 (by decide) ?_
            exact ih_44 _ _ _ _ _ (lv_sub hl [1, 2, 0] rfl) hw hf
      exact hL_55 _ _ _ _ _ _ (lv_sub hl [1, 2, 0] rfl) hw hf
    have hL_70 : ∀ (n_58 : Nat) (H : Heap) (locs : List Loc) (M_57 : xM) (x2_56 : Int32) (ls : Array Slot) , lv_has ls 3 [(0, .ref (g.2.2.1 k0)), (1, .ref (g.2.2.1 a1)), (2, .int x2_56)] → x_w g 0 s H locs M_57 → fX8_become_L73 k0 a1 k102_8 n_58 M_57 x2_56 = some M' → W p l e (x_rm 2 81) s m args below meth c H locs 0 0 Q (F0 m 73 ls []) := by
      intro n_58
      induction n_58 with
      | zero =>
        intro H locs M_57 x2_56 ls  hl hw hf
        rw [fX8_become_L73] at hf
        cases hf
      | succ n_58 ih_59 =>
        intro H locs M_57 x2_56 ls  hl hw hf
        rw [fX8_become_L73] at hf
        refine lv_iload_n hx hb dX8_become_73 rfl (lv_at hl 2 rfl) ?_
        refine lv_aload_n hx hb dX8_become_74 rfl (lv_at hl 0 rfl) ?_
        refine fg_X8_18 C hw h0 dX8_become_75 ?_
        refine lv_icmp_ge (tgt := 102) hx hb dX8_become_78 (by decide) (fun q_60 => ?_) (fun q_60 => ?_)
        · have hf := x_iP hf q_60
          exact hk102_8 _ _ _ _ (lv_sub hl [0, 1] rfl) hw hf
        · have hf := x_iN hf q_60
          refine lv_aload_n hx hb dX8_become_81 rfl (lv_at hl 0 rfl) ?_
          refine fg_X8_35 C hw h0 rfl dX8_become_82 ?_
          have h_61 : x_is 0 (xr 0 k0 6) 15 := x_tr h0 (by decide) (by decide) rfl (by decide)
          refine lv_iload_n hx hb dX8_become_85 rfl (lv_at hl 2 rfl) ?_
          obtain ⟨q_62, hf⟩ := x_gE hf
          refine x_rld (t := 3) (k2 := (xr 0 (xr 0 k0 6) x2_56.toNatClampNeg)) C hw h_61 (by decide) rfl q_62 rfl dX8_become_86 ?_
          have h_63 : x_is 0 (xr 0 (xr 0 k0 6) x2_56.toNatClampNeg) 1 := x_ta h_61 (by decide) (x_ilt q_62)
          refine lv_aload_n hx hb dX8_become_87 rfl (lv_at hl 1 rfl) ?_
          refine fg_X8_35 C hw ha1 rfl dX8_become_88 ?_
          have h_64 : x_is 0 (xr 0 a1 6) 15 := x_tr ha1 (by decide) (by decide) rfl (by decide)
          refine lv_iload_n hx hb dX8_become_91 rfl (lv_at hl 2 rfl) ?_
          obtain ⟨q_65, hf⟩ := x_gE hf
          refine x_rld (t := 3) (k2 := (xr 0 (xr 0 a1 6) x2_56.toNatClampNeg)) C hw h_64 (by decide) rfl q_65 rfl dX8_become_92 ?_
          have h_66 : x_is 0 (xr 0 (xr 0 a1 6) x2_56.toNatClampNeg) 1 := x_ta h_64 (by decide) (x_ilt q_65)
          obtain ⟨tM_67, c_68, hf⟩ := x_vE hf
          refine x_vV C hw hl.1 [.ref (g.2.2.1 (xr 0 (xr 0 a1 6) x2_56.toNatClampNeg))] [] (mX1_become l g h_63 h_66 c_68) lk_X8_88 h_63 (by decide) rfl (by decide) rfl (Nat.le_of_ble_eq_true rfl) ⟨Nat.zero_le _, Nat.zero_le _⟩ dX8_become_93 (fun M_67 H locs hN hw => ?_)
          obtain rfl := hN
          obtain ⟨x2_69, ex2_69⟩ : ∃ z : Int32, z = (x2_56 + (1 : Int32)) := ⟨_, rfl⟩
          have hf := x_lE ex2_69 hf
          refine lv_iinc (v := x2_69) (lv' := [(2, .int x2_69), (0, .ref (g.2.2.1 k0)), (1, .ref (g.2.2.1 a1))]) hx hb dX8_become_96 hl (k := 2) rfl (by rw [ex2_69]; rfl) (by decide) rfl (fun ls hl => ?_)
          refine lv_goto (tgt := 73) hx hb dX8_become_99 (by decide) ?_
          exact ih_59 _ _ _ _ _ (lv_sub hl [1, 2, 0] rfl) hw hf
    exact hL_70 _ _ _ _ _ _ (lv_sub hl [1, 2, 0] rfl) hw hf
  have hL_85 : ∀ (n_73 : Nat) (H : Heap) (locs : List Loc) (M_72 : xM) (x2_71 : Int32) (ls : Array Slot) , lv_has ls 3 [(0, .ref (g.2.2.1 k0)), (1, .ref (g.2.2.1 a1)), (2, .int x2_71)] → x_w g 0 s H locs M_72 → fX8_become_L42 k0 a1 k71_6 n_73 M_72 x2_71 = some M' → W p l e (x_rm 2 81) s m args below meth c H locs 0 0 Q (F0 m 42 ls []) := by
    intro n_73
    induction n_73 with
    | zero =>
      intro H locs M_72 x2_71 ls  hl hw hf
      rw [fX8_become_L42] at hf
      cases hf
    | succ n_73 ih_74 =>
      intro H locs M_72 x2_71 ls  hl hw hf
      rw [fX8_become_L42] at hf
      refine lv_iload_n hx hb dX8_become_42 rfl (lv_at hl 2 rfl) ?_
      refine lv_aload_n hx hb dX8_become_43 rfl (lv_at hl 0 rfl) ?_
      refine fg_X8_15 C hw h0 dX8_become_44 ?_
      refine lv_icmp_ge (tgt := 71) hx hb dX8_become_47 (by decide) (fun q_75 => ?_) (fun q_75 => ?_)
      · have hf := x_iP hf q_75
        exact hk71_6 _ _ _ _ (lv_sub hl [0, 1] rfl) hw hf
      · have hf := x_iN hf q_75
        refine lv_aload_n hx hb dX8_become_50 rfl (lv_at hl 0 rfl) ?_
        refine fg_X8_29 C hw h0 rfl dX8_become_51 ?_
        have h_76 : x_is 0 (xr 0 k0 5) 17 := x_tr h0 (by decide) (by decide) rfl (by decide)
        refine lv_iload_n hx hb dX8_become_54 rfl (lv_at hl 2 rfl) ?_
        obtain ⟨q_77, hf⟩ := x_gE hf
        refine x_rld (t := 5) (k2 := (xr 0 (xr 0 k0 5) x2_71.toNatClampNeg)) C hw h_76 (by decide) rfl q_77 rfl dX8_become_55 ?_
        have h_78 : x_is 0 (xr 0 (xr 0 k0 5) x2_71.toNatClampNeg) 4 := x_ta h_76 (by decide) (x_ilt q_77)
        refine lv_aload_n hx hb dX8_become_56 rfl (lv_at hl 1 rfl) ?_
        refine fg_X8_29 C hw ha1 rfl dX8_become_57 ?_
        have h_79 : x_is 0 (xr 0 a1 5) 17 := x_tr ha1 (by decide) (by decide) rfl (by decide)
        refine lv_iload_n hx hb dX8_become_60 rfl (lv_at hl 2 rfl) ?_
        obtain ⟨q_80, hf⟩ := x_gE hf
        refine x_rld (t := 5) (k2 := (xr 0 (xr 0 a1 5) x2_71.toNatClampNeg)) C hw h_79 (by decide) rfl q_80 rfl dX8_become_61 ?_
        have h_81 : x_is 0 (xr 0 (xr 0 a1 5) x2_71.toNatClampNeg) 4 := x_ta h_79 (by decide) (x_ilt q_80)
        obtain ⟨tM_82, c_83, hf⟩ := x_vE hf
        refine x_vV C hw hl.1 [.ref (g.2.2.1 (xr 0 (xr 0 a1 5) x2_71.toNatClampNeg))] [] (mX4_become l g h_78 h_81 c_83) lk_X8_84 h_78 (by decide) rfl (by decide) rfl (Nat.le_of_ble_eq_true rfl) ⟨Nat.zero_le _, Nat.zero_le _⟩ dX8_become_62 (fun M_82 H locs hN hw => ?_)
        obtain rfl := hN
        obtain ⟨x2_84, ex2_84⟩ : ∃ z : Int32, z = (x2_71 + (1 : Int32)) := ⟨_, rfl⟩
        have hf := x_lE ex2_84 hf
        refine lv_iinc (v := x2_84) (lv' := [(2, .int x2_84), (0, .ref (g.2.2.1 k0)), (1, .ref (g.2.2.1 a1))]) hx hb dX8_become_65 hl (k := 2) rfl (by rw [ex2_84]; rfl) (by decide) rfl (fun ls hl => ?_)
        refine lv_goto (tgt := 42) hx hb dX8_become_68 (by decide) ?_
        exact ih_74 _ _ _ _ _ (lv_sub hl [1, 2, 0] rfl) hw hf
  exact hL_85 _ _ _ _ _ _ (lv_sub hl [1, 2, 0] rfl) hw hf
noncomputable def fX8_hasDeed (M : xM) (a1 : Int32) : Option (Int32 × xM) := x_b (fX10_isWithin M a1 (0 : Int32) ((M 1 3) - (1 : Int32))) fun v_3 M_1 => x_z v_3 (some (v_3, M_1))
set_option maxRecDepth 100000 in
set_option maxHeartbeats 4000000 in
theorem mX8_hasDeed (l : Launch) (g : xG) {a1 : Int32} {r : Int32} {M' : xM}  {M : xM} (hf : fX8_hasDeed M a1 = some (r, M')) : x_cI l g 0 yX8_hasDeed cX8_hasDeed 2 .boolean 1 22 [.ref (g.2.2.1 1), .int a1] M (fun v N => v = r ∧ N = M') := by
  refine x_stZ RX8 (by decide) rfl (Nat.le_of_ble_eq_true rfl) ?_
  intro p e s m args below meth c Q ls C hw ret hl
  obtain ⟨hx, hb, hml, hown, hB, -⟩ := id C
  have hl : lv_has ls 2 [(0, .ref (g.2.2.1 1)), (1, .int a1)] := hl
  unfold fX8_hasDeed at hf
  refine lv_iload_n hx hb dX8_hasDeed_0 rfl (lv_at hl 1 rfl) ?_
  refine lv_iconst (v := (0 : Int32)) hx hb dX8_hasDeed_1 (by decide) ?_
  refine lv_aload_n hx hb dX8_hasDeed_2 rfl (lv_at hl 0 rfl) ?_
  refine fg_X8_21 C hw ic0_1 dX8_hasDeed_3 ?_
  refine lv_iconst (v := (1 : Int32)) hx hb dX8_hasDeed_6 (by decide) ?_
  refine lv_isub hx hb dX8_hasDeed_7 ?_
  obtain ⟨tv_3, tM_1, c_2, hf⟩ := x_bE hf
  refine x_nI C hw hl.1 [.int a1, .int (0 : Int32), .int ((M 1 3) - (1 : Int32))] [] (mX10_isWithin l g c_2) lk_X8_106 (by decide) rfl (Nat.le_of_ble_eq_true rfl) ⟨Nat.zero_le _, Nat.zero_le _⟩ dX8_hasDeed_8 (fun v_3 M_1 H locs hN hw => ?_)
  obtain ⟨rfl, rfl⟩ := hN
  exact ret hf dX8_hasDeed_11 hw
noncomputable def fX8_hasJudgment (M : xM) (a1 : Int32) : Option (Int32 × xM) := x_b (fX10_isWithin M a1 (0 : Int32) ((M 1 4) - (1 : Int32))) fun v_3 M_1 => x_z v_3 (some (v_3, M_1))
set_option maxRecDepth 100000 in
set_option maxHeartbeats 4000000 in
theorem mX8_hasJudgment (l : Launch) (g : xG) {a1 : Int32} {r : Int32} {M' : xM}  {M : xM} (hf : fX8_hasJudgment M a1 = some (r, M')) : x_cI l g 0 yX8_hasJudgment cX8_hasJudgment 2 .boolean 1 22 [.ref (g.2.2.1 1), .int a1] M (fun v N => v = r ∧ N = M') := by
  refine x_stZ RX8 (by decide) rfl (Nat.le_of_ble_eq_true rfl) ?_
  intro p e s m args below meth c Q ls C hw ret hl
  obtain ⟨hx, hb, hml, hown, hB, -⟩ := id C
  have hl : lv_has ls 2 [(0, .ref (g.2.2.1 1)), (1, .int a1)] := hl
  unfold fX8_hasJudgment at hf
  refine lv_iload_n hx hb dX8_hasJudgment_0 rfl (lv_at hl 1 rfl) ?_
  refine lv_iconst (v := (0 : Int32)) hx hb dX8_hasJudgment_1 (by decide) ?_
  refine lv_aload_n hx hb dX8_hasJudgment_2 rfl (lv_at hl 0 rfl) ?_
  refine fg_X8_24 C hw ic0_1 dX8_hasJudgment_3 ?_
  refine lv_iconst (v := (1 : Int32)) hx hb dX8_hasJudgment_6 (by decide) ?_
  refine lv_isub hx hb dX8_hasJudgment_7 ?_
  obtain ⟨tv_3, tM_1, c_2, hf⟩ := x_bE hf
  refine x_nI C hw hl.1 [.int a1, .int (0 : Int32), .int ((M 1 4) - (1 : Int32))] [] (mX10_isWithin l g c_2) lk_X8_106 (by decide) rfl (Nat.le_of_ble_eq_true rfl) ⟨Nat.zero_le _, Nat.zero_le _⟩ dX8_hasJudgment_8 (fun v_3 M_1 H locs hN hw => ?_)
  obtain ⟨rfl, rfl⟩ := hN
  exact ret hf dX8_hasJudgment_11 hw
noncomputable def fX8_hasLaw (M : xM)  : Option (Int32 × xM) := if (M 25 3) ≤ 0 then (some ((0 : Int32), M)) else (some ((1 : Int32), M))
set_option maxRecDepth 100000 in
set_option maxHeartbeats 4000000 in
theorem mX8_hasLaw (l : Launch) (g : xG)  {r : Int32} {M' : xM}  {M : xM} (hf : fX8_hasLaw M  = some (r, M')) : x_cI l g 0 yX8_hasLaw cX8_hasLaw 1 .boolean 0 0 [.ref (g.2.2.1 1)] M (fun v N => v = r ∧ N = M') := by
  refine x_stZ RX8 (by decide) rfl (Nat.le_of_ble_eq_true rfl) ?_
  intro p e s m args below meth c Q ls C hw ret hl
  obtain ⟨hx, hb, hml, hown, hB, -⟩ := id C
  have hl : lv_has ls 1 [(0, .ref (g.2.2.1 1))] := hl
  unfold fX8_hasLaw at hf
  refine lv_aload_n hx hb dX8_hasLaw_0 rfl (lv_at hl 0 rfl) ?_
  refine fg_X8_69 (k2 := 25) C hw ic0_1 rfl dX8_hasLaw_1 ?_
  refine fg_X8_110 C hw ic0_25 dX8_hasLaw_4 ?_
  refine lv_if_le (tgt := 14) hx hb dX8_hasLaw_7 (by decide) (fun q_1 => ?_) (fun q_1 => ?_)
  · have hf := x_iP hf q_1
    refine lv_iconst (v := (0 : Int32)) hx hb dX8_hasLaw_14 (by decide) ?_
    exact ret ((x_zl0 _).trans hf) dX8_hasLaw_15 hw
  · have hf := x_iN hf q_1
    refine lv_iconst (v := (1 : Int32)) hx hb dX8_hasLaw_10 (by decide) ?_
    refine lv_goto (tgt := 15) hx hb dX8_hasLaw_11 (by decide) ?_
    exact ret ((x_zl1 _).trans hf) dX8_hasLaw_15 hw
noncomputable def fX8_couples_L4 (k33_2 : xM → Int32 → Option (Int32 × xM)) : Nat → xM → Int32 → Int32 → Option (Int32 × xM)
  | 0, _, _, _ => none
  | n_8 + 1, M_7, x1_5, x2_6 => if (M_7 1 1) ≤ x2_6 then (k33_2 M_7 x1_5) else (x_g x2_6 12 (x_b (fX4_isCoupled M_7 (31 + x2_6.toNatClampNeg)) fun v_15 M_13 => x_b (fX10_oneIf M_13 v_15) fun v_18 M_16 => x_l (x1_5 + v_18) fun x1_19 => x_l (x2_6 + (1 : Int32)) fun x2_20 => fX8_couples_L4 k33_2 n_8 M_16 x1_19 x2_20))
noncomputable def fX8_couples (M : xM)  : Option (Int32 × xM) := x_l (fun (M_3 : xM) (x1_1 : Int32) => some ((x1_1 / (2 : Int32)), M_3)) fun k33_2 => fX8_couples_L4 k33_2 x_FU M (0 : Int32) (0 : Int32)
set_option maxRecDepth 100000 in
set_option maxHeartbeats 4000000 in
theorem mX8_couples (l : Launch) (g : xG)  {r : Int32} {M' : xM}  {M : xM} (hf : fX8_couples M  = some (r, M')) : x_cI l g 0 yX8_couples cX8_couples 3 .int 1 20 [.ref (g.2.2.1 1)] M (fun v N => v = r ∧ N = M') := by
  refine x_stI RX8 (by decide) rfl (Nat.le_of_ble_eq_true rfl) ?_
  intro p e s m args below meth c Q ls C hw ret hl
  obtain ⟨hx, hb, hml, hown, hB, -⟩ := id C
  have hl : lv_has ls 3 [(0, .ref (g.2.2.1 1))] := hl
  unfold fX8_couples at hf
  refine lv_iconst (v := (0 : Int32)) hx hb dX8_couples_0 (by decide) ?_
  refine lv_istore_n (lv' := [(1, .int (0 : Int32)), (0, .ref (g.2.2.1 1))]) hx hb dX8_couples_1 rfl hl (by decide) rfl (fun ls hl => ?_)
  refine lv_iconst (v := (0 : Int32)) hx hb dX8_couples_2 (by decide) ?_
  refine lv_istore_n (lv' := [(2, .int (0 : Int32)), (1, .int (0 : Int32)), (0, .ref (g.2.2.1 1))]) hx hb dX8_couples_3 rfl hl (by decide) rfl (fun ls hl => ?_)
  obtain ⟨k33_2, ek33_2, hf⟩ := x_jE hf
  have hk33_2 : ∀ (H : Heap) (locs : List Loc) (M_3 : xM) (x1_1 : Int32) (ls : Array Slot) , lv_has ls 3 [(1, .int x1_1)] → x_w g 0 s H locs M_3 → k33_2 M_3 x1_1 = some (r, M') → W p l e (x_rm 1 20) s m args below meth c H locs 0 0 Q (F0 m 33 ls []) := by
    intro H locs M_3 x1_1 ls  hl hw hf
    rw [ek33_2] at hf
    refine lv_iload_n hx hb dX8_couples_33 rfl (lv_at hl 0 rfl) ?_
    refine lv_iconst (v := (2 : Int32)) hx hb dX8_couples_34 (by decide) ?_
    refine lv_idiv hx hb dX8_couples_35 (by decide) ?_
    exact ret hf dX8_couples_36 hw
  have hL_21 : ∀ (n_8 : Nat) (H : Heap) (locs : List Loc) (M_7 : xM) (x1_5 : Int32) (x2_6 : Int32) (ls : Array Slot) , lv_has ls 3 [(0, .ref (g.2.2.1 1)), (1, .int x1_5), (2, .int x2_6)] → x_w g 0 s H locs M_7 → fX8_couples_L4 k33_2 n_8 M_7 x1_5 x2_6 = some (r, M') → W p l e (x_rm 1 20) s m args below meth c H locs 0 0 Q (F0 m 4 ls []) := by
    intro n_8
    induction n_8 with
    | zero =>
      intro H locs M_7 x1_5 x2_6 ls  hl hw hf
      rw [fX8_couples_L4] at hf
      cases hf
    | succ n_8 ih_9 =>
      intro H locs M_7 x1_5 x2_6 ls  hl hw hf
      rw [fX8_couples_L4] at hf
      refine lv_iload_n hx hb dX8_couples_4 rfl (lv_at hl 2 rfl) ?_
      refine lv_aload_n hx hb dX8_couples_5 rfl (lv_at hl 0 rfl) ?_
      refine fg_X8_15 C hw ic0_1 dX8_couples_6 ?_
      refine lv_icmp_ge (tgt := 33) hx hb dX8_couples_9 (by decide) (fun q_10 => ?_) (fun q_10 => ?_)
      · have hf := x_iP hf q_10
        exact hk33_2 _ _ _ _ _ (lv_sub hl [1] rfl) hw hf
      · have hf := x_iN hf q_10
        refine lv_iload_n hx hb dX8_couples_12 rfl (lv_at hl 1 rfl) ?_
        refine lv_aload_n hx hb dX8_couples_13 rfl (lv_at hl 0 rfl) ?_
        refine fg_X8_29 (k2 := 19) C hw ic0_1 rfl dX8_couples_14 ?_
        refine lv_iload_n hx hb dX8_couples_17 rfl (lv_at hl 2 rfl) ?_
        obtain ⟨q_11, hf⟩ := x_gE hf
        refine x_rld (t := 5) (k2 := (31 + x2_6.toNatClampNeg)) C hw ic0_19 (by decide) rfl q_11 (rr0_19 _) dX8_couples_18 ?_
        have h_12 : x_is 0 (31 + x2_6.toNatClampNeg) 4 := (rr0_19 x2_6.toNatClampNeg) ▸ x_ta ic0_19 (by decide) (x_ilt q_11)
        obtain ⟨tv_15, tM_13, c_14, hf⟩ := x_bE hf
        refine x_vI C hw hl.1 [] [.int x1_5] (mX4_isCoupled l g h_12 c_14) lk_X8_148 h_12 (by decide) rfl (by decide) rfl (Nat.le_of_ble_eq_true rfl) ⟨Nat.zero_le _, Nat.zero_le _⟩ dX8_couples_19 (fun v_15 M_13 H locs hN hw => ?_)
        obtain ⟨rfl, rfl⟩ := hN
        obtain ⟨tv_18, tM_16, c_17, hf⟩ := x_bE hf
        refine x_nI C hw hl.1 [.int v_15] [.int x1_5] (mX10_oneIf l g c_17) lk_X8_152 (by decide) rfl (Nat.le_of_ble_eq_true rfl) ⟨Nat.zero_le _, Nat.zero_le _⟩ dX8_couples_22 (fun v_18 M_16 H locs hN hw => ?_)
        obtain ⟨rfl, rfl⟩ := hN
        refine lv_iadd hx hb dX8_couples_25 ?_
        refine lv_topi (fun x1_19 ex1_19 => ?_)
        have hf := x_lE ex1_19 hf
        refine lv_istore_n (lv' := [(1, .int x1_19), (0, .ref (g.2.2.1 1)), (2, .int x2_6)]) hx hb dX8_couples_26 rfl hl (by decide) rfl (fun ls hl => ?_)
        obtain ⟨x2_20, ex2_20⟩ : ∃ z : Int32, z = (x2_6 + (1 : Int32)) := ⟨_, rfl⟩
        have hf := x_lE ex2_20 hf
        refine lv_iinc (v := x2_20) (lv' := [(2, .int x2_20), (1, .int x1_19), (0, .ref (g.2.2.1 1))]) hx hb dX8_couples_27 hl (k := 2) rfl (by rw [ex2_20]; rfl) (by decide) rfl (fun ls hl => ?_)
        refine lv_goto (tgt := 4) hx hb dX8_couples_30 (by decide) ?_
        exact ih_9 _ _ _ _ _ _ (lv_sub hl [2, 1, 0] rfl) hw hf
  exact hL_21 _ _ _ _ _ _ _ (lv_sub hl [2, 1, 0] rfl) hw hf
noncomputable def fX8_allCustody_L4  : Nat → xM → Int32 → Int32 → Option (Int32 × xM)
  | 0, _, _, _ => none
  | n_4 + 1, M_3, x1_1, x2_2 => if (M_3 1 1) ≤ x2_2 then (some (x1_1, M_3)) else (x_g x2_2 12 (x_l (x1_1 + (M_3 (31 + x2_2.toNatClampNeg) 2)) fun x1_9 => x_l (x2_2 + (1 : Int32)) fun x2_10 => fX8_allCustody_L4 n_4 M_3 x1_9 x2_10))
noncomputable def fX8_allCustody (M : xM)  : Option (Int32 × xM) := fX8_allCustody_L4 x_FU M (0 : Int32) (0 : Int32)
set_option maxRecDepth 100000 in
set_option maxHeartbeats 4000000 in
theorem mX8_allCustody (l : Launch) (g : xG)  {r : Int32} {M' : xM}  {M : xM} (hf : fX8_allCustody M  = some (r, M')) : x_cI l g 0 yX8_allCustody cX8_allCustody 3 .int 0 0 [.ref (g.2.2.1 1)] M (fun v N => v = r ∧ N = M') := by
  refine x_stI RX8 (by decide) rfl (Nat.le_of_ble_eq_true rfl) ?_
  intro p e s m args below meth c Q ls C hw ret hl
  obtain ⟨hx, hb, hml, hown, hB, -⟩ := id C
  have hl : lv_has ls 3 [(0, .ref (g.2.2.1 1))] := hl
  unfold fX8_allCustody at hf
  refine lv_iconst (v := (0 : Int32)) hx hb dX8_allCustody_0 (by decide) ?_
  refine lv_istore_n (lv' := [(1, .int (0 : Int32)), (0, .ref (g.2.2.1 1))]) hx hb dX8_allCustody_1 rfl hl (by decide) rfl (fun ls hl => ?_)
  refine lv_iconst (v := (0 : Int32)) hx hb dX8_allCustody_2 (by decide) ?_
  refine lv_istore_n (lv' := [(2, .int (0 : Int32)), (1, .int (0 : Int32)), (0, .ref (g.2.2.1 1))]) hx hb dX8_allCustody_3 rfl hl (by decide) rfl (fun ls hl => ?_)
  have hL_11 : ∀ (n_4 : Nat) (H : Heap) (locs : List Loc) (M_3 : xM) (x1_1 : Int32) (x2_2 : Int32) (ls : Array Slot) , lv_has ls 3 [(0, .ref (g.2.2.1 1)), (1, .int x1_1), (2, .int x2_2)] → x_w g 0 s H locs M_3 → fX8_allCustody_L4 n_4 M_3 x1_1 x2_2 = some (r, M') → W p l e (x_rm 0 0) s m args below meth c H locs 0 0 Q (F0 m 4 ls []) := by
    intro n_4
    induction n_4 with
    | zero =>
      intro H locs M_3 x1_1 x2_2 ls  hl hw hf
      rw [fX8_allCustody_L4] at hf
      cases hf
    | succ n_4 ih_5 =>
      intro H locs M_3 x1_1 x2_2 ls  hl hw hf
      rw [fX8_allCustody_L4] at hf
      refine lv_iload_n hx hb dX8_allCustody_4 rfl (lv_at hl 2 rfl) ?_
      refine lv_aload_n hx hb dX8_allCustody_5 rfl (lv_at hl 0 rfl) ?_
      refine fg_X8_15 C hw ic0_1 dX8_allCustody_6 ?_
      refine lv_icmp_ge (tgt := 30) hx hb dX8_allCustody_9 (by decide) (fun q_6 => ?_) (fun q_6 => ?_)
      · have hf := x_iP hf q_6
        refine lv_iload_n hx hb dX8_allCustody_30 rfl (lv_at hl 1 rfl) ?_
        exact ret hf dX8_allCustody_31 hw
      · have hf := x_iN hf q_6
        refine lv_iload_n hx hb dX8_allCustody_12 rfl (lv_at hl 1 rfl) ?_
        refine lv_aload_n hx hb dX8_allCustody_13 rfl (lv_at hl 0 rfl) ?_
        refine fg_X8_29 (k2 := 19) C hw ic0_1 rfl dX8_allCustody_14 ?_
        refine lv_iload_n hx hb dX8_allCustody_17 rfl (lv_at hl 2 rfl) ?_
        obtain ⟨q_7, hf⟩ := x_gE hf
        refine x_rld (t := 5) (k2 := (31 + x2_2.toNatClampNeg)) C hw ic0_19 (by decide) rfl q_7 (rr0_19 _) dX8_allCustody_18 ?_
        have h_8 : x_is 0 (31 + x2_2.toNatClampNeg) 4 := (rr0_19 x2_2.toNatClampNeg) ▸ x_ta ic0_19 (by decide) (x_ilt q_7)
        refine fg_X8_156 C hw h_8 dX8_allCustody_19 ?_
        refine lv_iadd hx hb dX8_allCustody_22 ?_
        refine lv_topi (fun x1_9 ex1_9 => ?_)
        have hf := x_lE ex1_9 hf
        refine lv_istore_n (lv' := [(1, .int x1_9), (0, .ref (g.2.2.1 1)), (2, .int x2_2)]) hx hb dX8_allCustody_23 rfl hl (by decide) rfl (fun ls hl => ?_)
        obtain ⟨x2_10, ex2_10⟩ : ∃ z : Int32, z = (x2_2 + (1 : Int32)) := ⟨_, rfl⟩
        have hf := x_lE ex2_10 hf
        refine lv_iinc (v := x2_10) (lv' := [(2, .int x2_10), (1, .int x1_9), (0, .ref (g.2.2.1 1))]) hx hb dX8_allCustody_24 hl (k := 2) rfl (by rw [ex2_10]; rfl) (by decide) rfl (fun ls hl => ?_)
        refine lv_goto (tgt := 4) hx hb dX8_allCustody_27 (by decide) ?_
        exact ih_5 _ _ _ _ _ _ (lv_sub hl [2, 1, 0] rfl) hw hf
  exact hL_11 _ _ _ _ _ _ _ (lv_sub hl [2, 1, 0] rfl) hw hf
noncomputable def fX8_openDeeds_L4  : Nat → xM → Int32 → Int32 → Option (Int32 × xM)
  | 0, _, _, _ => none
  | n_4 + 1, M_3, x1_1, x2_2 => if (M_3 1 3) ≤ x2_2 then (some (x1_1, M_3)) else (x_g x2_2 30 (x_b (fX0_isJudged M_3 (139 + x2_2.toNatClampNeg)) fun v_11 M_9 => x_l (fun (M_14 : xM) (z_12 : Int32) => x_b (fX10_oneIf M_14 z_12) fun v_17 M_15 => x_l (x1_1 + v_17) fun x1_18 => x_l (x2_2 + (1 : Int32)) fun x2_19 => fX8_openDeeds_L4 n_4 M_15 x1_18 x2_19) fun k30_13 => if v_11 = 0 then (k30_13 M_9 (1 : Int32)) else (k30_13 M_9 (0 : Int32))))
noncomputable def fX8_openDeeds (M : xM)  : Option (Int32 × xM) := fX8_openDeeds_L4 x_FU M (0 : Int32) (0 : Int32)
set_option maxRecDepth 100000 in
set_option maxHeartbeats 4000000 in
theorem mX8_openDeeds (l : Launch) (g : xG)  {r : Int32} {M' : xM}  {M : xM} (hf : fX8_openDeeds M  = some (r, M')) : x_cI l g 0 yX8_openDeeds cX8_openDeeds 3 .int 1 20 [.ref (g.2.2.1 1)] M (fun v N => v = r ∧ N = M') := by
  refine x_stI RX8 (by decide) rfl (Nat.le_of_ble_eq_true rfl) ?_
  intro p e s m args below meth c Q ls C hw ret hl
  obtain ⟨hx, hb, hml, hown, hB, -⟩ := id C
  have hl : lv_has ls 3 [(0, .ref (g.2.2.1 1))] := hl
  unfold fX8_openDeeds at hf
  refine lv_iconst (v := (0 : Int32)) hx hb dX8_openDeeds_0 (by decide) ?_
  refine lv_istore_n (lv' := [(1, .int (0 : Int32)), (0, .ref (g.2.2.1 1))]) hx hb dX8_openDeeds_1 rfl hl (by decide) rfl (fun ls hl => ?_)
  refine lv_iconst (v := (0 : Int32)) hx hb dX8_openDeeds_2 (by decide) ?_
  refine lv_istore_n (lv' := [(2, .int (0 : Int32)), (1, .int (0 : Int32)), (0, .ref (g.2.2.1 1))]) hx hb dX8_openDeeds_3 rfl hl (by decide) rfl (fun ls hl => ?_)
  have hL_21 : ∀ (n_4 : Nat) (H : Heap) (locs : List Loc) (M_3 : xM) (x1_1 : Int32) (x2_2 : Int32) (ls : Array Slot) , lv_has ls 3 [(0, .ref (g.2.2.1 1)), (1, .int x1_1), (2, .int x2_2)] → x_w g 0 s H locs M_3 → fX8_openDeeds_L4 n_4 M_3 x1_1 x2_2 = some (r, M') → W p l e (x_rm 1 20) s m args below meth c H locs 0 0 Q (F0 m 4 ls []) := by
    intro n_4
    induction n_4 with
    | zero =>
      intro H locs M_3 x1_1 x2_2 ls  hl hw hf
      rw [fX8_openDeeds_L4] at hf
      cases hf
    | succ n_4 ih_5 =>
      intro H locs M_3 x1_1 x2_2 ls  hl hw hf
      rw [fX8_openDeeds_L4] at hf
      refine lv_iload_n hx hb dX8_openDeeds_4 rfl (lv_at hl 2 rfl) ?_
      refine lv_aload_n hx hb dX8_openDeeds_5 rfl (lv_at hl 0 rfl) ?_
      refine fg_X8_21 C hw ic0_1 dX8_openDeeds_6 ?_
      refine lv_icmp_ge (tgt := 41) hx hb dX8_openDeeds_9 (by decide) (fun q_6 => ?_) (fun q_6 => ?_)
      · have hf := x_iP hf q_6
        refine lv_iload_n hx hb dX8_openDeeds_41 rfl (lv_at hl 1 rfl) ?_
        exact ret hf dX8_openDeeds_42 hw
      · have hf := x_iN hf q_6
        refine lv_iload_n hx hb dX8_openDeeds_12 rfl (lv_at hl 1 rfl) ?_
        refine lv_aload_n hx hb dX8_openDeeds_13 rfl (lv_at hl 0 rfl) ?_
        refine fg_X8_41 (k2 := 21) C hw ic0_1 rfl dX8_openDeeds_14 ?_
        refine lv_iload_n hx hb dX8_openDeeds_17 rfl (lv_at hl 2 rfl) ?_
        obtain ⟨q_7, hf⟩ := x_gE hf
        refine x_rld (t := 2) (k2 := (139 + x2_2.toNatClampNeg)) C hw ic0_21 (by decide) rfl q_7 (rr0_21 _) dX8_openDeeds_18 ?_
        have h_8 : x_is 0 (139 + x2_2.toNatClampNeg) 0 := (rr0_21 x2_2.toNatClampNeg) ▸ x_ta ic0_21 (by decide) (x_ilt q_7)
        obtain ⟨tv_11, tM_9, c_10, hf⟩ := x_bE hf
        refine x_vI C hw hl.1 [] [.int x1_1] (mX0_isJudged l g h_8 c_10) lk_X8_159 h_8 (by decide) rfl (by decide) rfl (Nat.le_of_ble_eq_true rfl) ⟨Nat.zero_le _, Nat.zero_le _⟩ dX8_openDeeds_19 (fun v_11 M_9 H locs hN hw => ?_)
        obtain ⟨rfl, rfl⟩ := hN
        obtain ⟨k30_13, ek30_13, hf⟩ := x_jE hf
        have hk30_13 : ∀ (H : Heap) (locs : List Loc) (M_14 : xM) (z_12 : Int32) (ls : Array Slot) , lv_has ls 3 [(0, .ref (g.2.2.1 1)), (2, .int x2_2)] → x_w g 0 s H locs M_14 → k30_13 M_14 z_12 = some (r, M') → W p l e (x_rm 1 20) s m args below meth c H locs 0 0 Q (F0 m 30 ls [.int z_12, .int x1_1]) := by
          intro H locs M_14 z_12 ls  hl hw hf
          rw [ek30_13] at hf
          obtain ⟨tv_17, tM_15, c_16, hf⟩ := x_bE hf
          refine x_nI C hw hl.1 [.int z_12] [.int x1_1] (mX10_oneIf l g c_16) lk_X8_152 (by decide) rfl (Nat.le_of_ble_eq_true rfl) ⟨Nat.zero_le _, Nat.zero_le _⟩ dX8_openDeeds_30 (fun v_17 M_15 H locs hN hw => ?_)
          obtain ⟨rfl, rfl⟩ := hN
          refine lv_iadd hx hb dX8_openDeeds_33 ?_
          refine lv_topi (fun x1_18 ex1_18 => ?_)
          have hf := x_lE ex1_18 hf
          refine lv_istore_n (lv' := [(1, .int x1_18), (0, .ref (g.2.2.1 1)), (2, .int x2_2)]) hx hb dX8_openDeeds_34 rfl hl (by decide) rfl (fun ls hl => ?_)
          obtain ⟨x2_19, ex2_19⟩ : ∃ z : Int32, z = (x2_2 + (1 : Int32)) := ⟨_, rfl⟩
          have hf := x_lE ex2_19 hf
          refine lv_iinc (v := x2_19) (lv' := [(2, .int x2_19), (1, .int x1_18), (0, .ref (g.2.2.1 1))]) hx hb dX8_openDeeds_35 hl (k := 2) rfl (by rw [ex2_19]; rfl) (by decide) rfl (fun ls hl => ?_)
          refine lv_goto (tgt := 4) hx hb dX8_openDeeds_38 (by decide) ?_
          exact ih_5 _ _ _ _ _ _ (lv_sub hl [2, 1, 0] rfl) hw hf
        refine lv_if_ne (tgt := 29) hx hb dX8_openDeeds_22 (by decide) (fun q_20 => ?_) (fun q_20 => ?_)
        · have hf := x_iN hf q_20
          refine lv_iconst (v := (0 : Int32)) hx hb dX8_openDeeds_29 (by decide) ?_
          exact hk30_13 _ _ _ _ _ (lv_sub hl [0, 2] rfl) hw hf
        · have hf := x_iP hf q_20
          refine lv_iconst (v := (1 : Int32)) hx hb dX8_openDeeds_25 (by decide) ?_
          refine lv_goto (tgt := 30) hx hb dX8_openDeeds_26 (by decide) ?_
          exact hk30_13 _ _ _ _ _ (lv_sub hl [0, 2] rfl) hw hf
  exact hL_21 _ _ _ _ _ _ _ (lv_sub hl [2, 1, 0] rfl) hw hf
noncomputable def fX8_hasOpenDeed_L2 (a1 : Int32) : Nat → xM → Int32 → Option (Int32 × xM)
  | 0, _, _ => none
  | n_3 + 1, M_2, x2_1 => if (M_2 1 3) ≤ x2_1 then (some ((0 : Int32), M_2)) else (x_g x2_1 30 (x_b (fX0_isOpenOf M_2 (139 + x2_1.toNatClampNeg) a1) fun v_10 M_8 => if v_10 = 0 then (x_l (x2_1 + (1 : Int32)) fun x2_12 => fX8_hasOpenDeed_L2 a1 n_3 M_8 x2_12) else (some ((1 : Int32), M_8))))
noncomputable def fX8_hasOpenDeed (M : xM) (a1 : Int32) : Option (Int32 × xM) := fX8_hasOpenDeed_L2 a1 x_FU M (0 : Int32)
set_option maxRecDepth 100000 in
set_option maxHeartbeats 4000000 in
theorem mX8_hasOpenDeed (l : Launch) (g : xG) {a1 : Int32} {r : Int32} {M' : xM}  {M : xM} (hf : fX8_hasOpenDeed M a1 = some (r, M')) : x_cI l g 0 yX8_hasOpenDeed cX8_hasOpenDeed 3 .boolean 2 41 [.ref (g.2.2.1 1), .int a1] M (fun v N => v = r ∧ N = M') := by
  refine x_stZ RX8 (by decide) rfl (Nat.le_of_ble_eq_true rfl) ?_
  intro p e s m args below meth c Q ls C hw ret hl
  obtain ⟨hx, hb, hml, hown, hB, -⟩ := id C
  have hl : lv_has ls 3 [(0, .ref (g.2.2.1 1)), (1, .int a1)] := hl
  unfold fX8_hasOpenDeed at hf
  refine lv_iconst (v := (0 : Int32)) hx hb dX8_hasOpenDeed_0 (by decide) ?_
  refine lv_istore_n (lv' := [(2, .int (0 : Int32)), (0, .ref (g.2.2.1 1)), (1, .int a1)]) hx hb dX8_hasOpenDeed_1 rfl hl (by decide) rfl (fun ls hl => ?_)
  have hL_13 : ∀ (n_3 : Nat) (H : Heap) (locs : List Loc) (M_2 : xM) (x2_1 : Int32) (ls : Array Slot) , lv_has ls 3 [(0, .ref (g.2.2.1 1)), (1, .int a1), (2, .int x2_1)] → x_w g 0 s H locs M_2 → fX8_hasOpenDeed_L2 a1 n_3 M_2 x2_1 = some (r, M') → W p l e (x_rm 2 41) s m args below meth c H locs 0 0 Q (F0 m 2 ls []) := by
    intro n_3
    induction n_3 with
    | zero =>
      intro H locs M_2 x2_1 ls  hl hw hf
      rw [fX8_hasOpenDeed_L2] at hf
      cases hf
    | succ n_3 ih_4 =>
      intro H locs M_2 x2_1 ls  hl hw hf
      rw [fX8_hasOpenDeed_L2] at hf
      refine lv_iload_n hx hb dX8_hasOpenDeed_2 rfl (lv_at hl 2 rfl) ?_
      refine lv_aload_n hx hb dX8_hasOpenDeed_3 rfl (lv_at hl 0 rfl) ?_
      refine fg_X8_21 C hw ic0_1 dX8_hasOpenDeed_4 ?_
      refine lv_icmp_ge (tgt := 31) hx hb dX8_hasOpenDeed_7 (by decide) (fun q_5 => ?_) (fun q_5 => ?_)
      · have hf := x_iP hf q_5
        refine lv_iconst (v := (0 : Int32)) hx hb dX8_hasOpenDeed_31 (by decide) ?_
        exact ret ((x_zl0 _).trans hf) dX8_hasOpenDeed_32 hw
      · have hf := x_iN hf q_5
        refine lv_aload_n hx hb dX8_hasOpenDeed_10 rfl (lv_at hl 0 rfl) ?_
        refine fg_X8_41 (k2 := 21) C hw ic0_1 rfl dX8_hasOpenDeed_11 ?_
        refine lv_iload_n hx hb dX8_hasOpenDeed_14 rfl (lv_at hl 2 rfl) ?_
        obtain ⟨q_6, hf⟩ := x_gE hf
        refine x_rld (t := 2) (k2 := (139 + x2_1.toNatClampNeg)) C hw ic0_21 (by decide) rfl q_6 (rr0_21 _) dX8_hasOpenDeed_15 ?_
        have h_7 : x_is 0 (139 + x2_1.toNatClampNeg) 0 := (rr0_21 x2_1.toNatClampNeg) ▸ x_ta ic0_21 (by decide) (x_ilt q_6)
        refine lv_iload_n hx hb dX8_hasOpenDeed_16 rfl (lv_at hl 1 rfl) ?_
        obtain ⟨tv_10, tM_8, c_9, hf⟩ := x_bE hf
        refine x_vI C hw hl.1 [.int a1] [] (mX0_isOpenOf l g h_7 c_9) lk_X8_162 h_7 (by decide) rfl (by decide) rfl (Nat.le_of_ble_eq_true rfl) ⟨Nat.zero_le _, Nat.zero_le _⟩ dX8_hasOpenDeed_17 (fun v_10 M_8 H locs hN hw => ?_)
        obtain ⟨rfl, rfl⟩ := hN
        refine lv_if_eq (tgt := 25) hx hb dX8_hasOpenDeed_20 (by decide) (fun q_11 => ?_) (fun q_11 => ?_)
        · have hf := x_iP hf q_11
          obtain ⟨x2_12, ex2_12⟩ : ∃ z : Int32, z = (x2_1 + (1 : Int32)) := ⟨_, rfl⟩
          have hf := x_lE ex2_12 hf
          refine lv_iinc (v := x2_12) (lv' := [(2, .int x2_12), (0, .ref (g.2.2.1 1)), (1, .int a1)]) hx hb dX8_hasOpenDeed_25 hl (k := 2) rfl (by rw [ex2_12]; rfl) (by decide) rfl (fun ls hl => ?_)
          refine lv_goto (tgt := 2) hx hb dX8_hasOpenDeed_28 (by decide) ?_
          exact ih_4 _ _ _ _ _ (lv_sub hl [1, 2, 0] rfl) hw hf
        · have hf := x_iN hf q_11
          refine lv_iconst (v := (1 : Int32)) hx hb dX8_hasOpenDeed_23 (by decide) ?_
          exact ret ((x_zl1 _).trans hf) dX8_hasOpenDeed_24 hw
  exact hL_13 _ _ _ _ _ _ (lv_sub hl [1, 2, 0] rfl) hw hf
noncomputable def fX8_takeOpenDeeds_L2 (a1 : Int32) (a2 : Int32) : Nat → xM → Int32 → Option (xM)
  | 0, _, _ => none
  | n_3 + 1, M_2, x3_1 => if (M_2 1 3) ≤ x3_1 then (some M_2) else (x_g x3_1 30 (x_b (fX0_isOpenOf M_2 (139 + x3_1.toNatClampNeg) a1) fun v_10 M_8 => x_l (fun (M_12 : xM) => x_l (x3_1 + (1 : Int32)) fun x3_13 => fX8_takeOpenDeeds_L2 a1 a2 n_3 M_12 x3_13) fun k33_11 => if v_10 = 0 then (k33_11 M_8) else (x_g x3_1 30 (x_l (x_up M_8 (139 + x3_1.toNatClampNeg) 4 a2) fun M_16 => k33_11 M_16))))
noncomputable def fX8_takeOpenDeeds (M : xM) (a1 : Int32) (a2 : Int32) : Option (xM) := fX8_takeOpenDeeds_L2 a1 a2 x_FU M (0 : Int32)
set_option maxRecDepth 100000 in
set_option maxHeartbeats 4000000 in
theorem mX8_takeOpenDeeds (l : Launch) (g : xG) {a1 : Int32} {a2 : Int32} {M' : xM}  {M : xM} (hf : fX8_takeOpenDeeds M a1 a2 = some M') : x_cV l g 0 yX8_takeOpenDeeds cX8_takeOpenDeeds 4 2 41 [.ref (g.2.2.1 1), .int a1, .int a2] M (fun N => N = M') := by
  refine x_stV RX8 (by decide) rfl (Nat.le_of_ble_eq_true rfl) ?_
  intro p e s m args below meth c Q ls C hw ret hl
  obtain ⟨hx, hb, hml, hown, hB, -⟩ := id C
  have hl : lv_has ls 4 [(0, .ref (g.2.2.1 1)), (1, .int a1), (2, .int a2)] := hl
  unfold fX8_takeOpenDeeds at hf
  refine lv_iconst (v := (0 : Int32)) hx hb dX8_takeOpenDeeds_0 (by decide) ?_
  refine lv_istore_n (lv' := [(3, .int (0 : Int32)), (0, .ref (g.2.2.1 1)), (1, .int a1), (2, .int a2)]) hx hb dX8_takeOpenDeeds_1 rfl hl (by decide) rfl (fun ls hl => ?_)
  have hL_17 : ∀ (n_3 : Nat) (H : Heap) (locs : List Loc) (M_2 : xM) (x3_1 : Int32) (ls : Array Slot) , lv_has ls 4 [(0, .ref (g.2.2.1 1)), (1, .int a1), (2, .int a2), (3, .int x3_1)] → x_w g 0 s H locs M_2 → fX8_takeOpenDeeds_L2 a1 a2 n_3 M_2 x3_1 = some M' → W p l e (x_rm 2 41) s m args below meth c H locs 0 0 Q (F0 m 2 ls []) := by
    intro n_3
    induction n_3 with
    | zero =>
      intro H locs M_2 x3_1 ls  hl hw hf
      rw [fX8_takeOpenDeeds_L2] at hf
      cases hf
    | succ n_3 ih_4 =>
      intro H locs M_2 x3_1 ls  hl hw hf
      rw [fX8_takeOpenDeeds_L2] at hf
      refine lv_iload_n hx hb dX8_takeOpenDeeds_2 rfl (lv_at hl 3 rfl) ?_
      refine lv_aload_n hx hb dX8_takeOpenDeeds_3 rfl (lv_at hl 0 rfl) ?_
      refine fg_X8_21 C hw ic0_1 dX8_takeOpenDeeds_4 ?_
      refine lv_icmp_ge (tgt := 39) hx hb dX8_takeOpenDeeds_7 (by decide) (fun q_5 => ?_) (fun q_5 => ?_)
      · have hf := x_iP hf q_5
        exact ret hf dX8_takeOpenDeeds_39 hw
      · have hf := x_iN hf q_5
        refine lv_aload_n hx hb dX8_takeOpenDeeds_10 rfl (lv_at hl 0 rfl) ?_
        refine fg_X8_41 (k2 := 21) C hw ic0_1 rfl dX8_takeOpenDeeds_11 ?_
        refine lv_iload_n hx hb dX8_takeOpenDeeds_14 rfl (lv_at hl 3 rfl) ?_
        obtain ⟨q_6, hf⟩ := x_gE hf
        refine x_rld (t := 2) (k2 := (139 + x3_1.toNatClampNeg)) C hw ic0_21 (by decide) rfl q_6 (rr0_21 _) dX8_takeOpenDeeds_15 ?_
        have h_7 : x_is 0 (139 + x3_1.toNatClampNeg) 0 := (rr0_21 x3_1.toNatClampNeg) ▸ x_ta ic0_21 (by decide) (x_ilt q_6)
        refine lv_iload_n hx hb dX8_takeOpenDeeds_16 rfl (lv_at hl 1 rfl) ?_
        obtain ⟨tv_10, tM_8, c_9, hf⟩ := x_bE hf
        refine x_vI C hw hl.1 [.int a1] [] (mX0_isOpenOf l g h_7 c_9) lk_X8_162 h_7 (by decide) rfl (by decide) rfl (Nat.le_of_ble_eq_true rfl) ⟨Nat.zero_le _, Nat.zero_le _⟩ dX8_takeOpenDeeds_17 (fun v_10 M_8 H locs hN hw => ?_)
        obtain ⟨rfl, rfl⟩ := hN
        obtain ⟨k33_11, ek33_11, hf⟩ := x_jE hf
        have hk33_11 : ∀ (H : Heap) (locs : List Loc) (M_12 : xM)  (ls : Array Slot) , lv_has ls 4 [(0, .ref (g.2.2.1 1)), (1, .int a1), (2, .int a2), (3, .int x3_1)] → x_w g 0 s H locs M_12 → k33_11 M_12 = some M' → W p l e (x_rm 2 41) s m args below meth c H locs 0 0 Q (F0 m 33 ls []) := by
          intro H locs M_12  ls  hl hw hf
          rw [ek33_11] at hf
          obtain ⟨x3_13, ex3_13⟩ : ∃ z : Int32, z = (x3_1 + (1 : Int32)) := ⟨_, rfl⟩
          have hf := x_lE ex3_13 hf
          refine lv_iinc (v := x3_13) (lv' := [(3, .int x3_13), (0, .ref (g.2.2.1 1)), (1, .int a1), (2, .int a2)]) hx hb dX8_takeOpenDeeds_33 hl (k := 3) rfl (by rw [ex3_13]; rfl) (by decide) rfl (fun ls hl => ?_)
          refine lv_goto (tgt := 2) hx hb dX8_takeOpenDeeds_36 (by decide) ?_
          exact ih_4 _ _ _ _ _ (lv_sub hl [1, 2, 3, 0] rfl) hw hf
        refine lv_if_eq (tgt := 33) hx hb dX8_takeOpenDeeds_20 (by decide) (fun q_14 => ?_) (fun q_14 => ?_)
        · have hf := x_iP hf q_14
          exact hk33_11 _ _ _ _ (lv_sub hl [0, 1, 2, 3] rfl) hw hf
        · have hf := x_iN hf q_14
          refine lv_aload_n hx hb dX8_takeOpenDeeds_23 rfl (lv_at hl 0 rfl) ?_
          refine fg_X8_41 (k2 := 21) C hw ic0_1 rfl dX8_takeOpenDeeds_24 ?_
          refine lv_iload_n hx hb dX8_takeOpenDeeds_27 rfl (lv_at hl 3 rfl) ?_
          obtain ⟨q_15, hf⟩ := x_gE hf
          refine x_rld (t := 2) (k2 := (139 + x3_1.toNatClampNeg)) C hw ic0_21 (by decide) rfl q_15 (rr0_21 _) dX8_takeOpenDeeds_28 ?_
          refine lv_iload_n hx hb dX8_takeOpenDeeds_29 rfl (lv_at hl 2 rfl) ?_
          refine fp_X8_165 C hw h_7 dX8_takeOpenDeeds_30 (fun H locs hw => ?_)
          obtain ⟨M_16, eM_16⟩ : ∃ z, z = (x_up M_8 (139 + x3_1.toNatClampNeg) 4 a2) := ⟨_, rfl⟩
          rw [← eM_16] at hw
          have hf := x_lE eM_16 hf
          exact hk33_11 _ _ _ _ (lv_sub hl [0, 1, 2, 3] rfl) hw hf
  exact hL_17 _ _ _ _ _ _ (lv_sub hl [1, 2, 3, 0] rfl) hw hf
noncomputable def fX8_pastOf_L4 (a1 : Nat) : Nat → xM → Int32 → Int32 → Option (Int32 × xM)
  | 0, _, _, _ => none
  | n_4 + 1, M_3, x2_1, x3_2 => if (M_3 1 4) ≤ x3_2 then (some (x2_1, M_3)) else (x_g x3_2 16 (x_l ((M_3 a1 2) - (M_3 (169 + x3_2.toNatClampNeg) 1)) fun x4_9 => x_g x3_2 16 (x_l (fun (M_13 : xM) (x2_11 : Int32) => x_l (x3_2 + (1 : Int32)) fun x3_14 => fX8_pastOf_L4 a1 n_4 M_13 x2_11 x3_14) fun k62_12 => if (M_3 (169 + x3_2.toNatClampNeg) 0) = (M_3 a1 1) then (x_b (fX10_isWithin M_3 x4_9 (1 : Int32) (M_3 23 1)) fun v_19 M_17 => if v_19 = 0 then (k62_12 M_17 x2_1) else (x_l (x2_1 + (1 : Int32)) fun x2_21 => k62_12 M_17 x2_21)) else (k62_12 M_3 x2_1))))
noncomputable def fX8_pastOf (M : xM) (a1 : Nat) : Option (Int32 × xM) := fX8_pastOf_L4 a1 x_FU M (0 : Int32) (0 : Int32)
set_option maxRecDepth 100000 in
set_option maxHeartbeats 4000000 in
theorem mX8_pastOf (l : Launch) (g : xG) {a1 : Nat} {r : Int32} {M' : xM} (ha1 : x_is 0 a1 0) {M : xM} (hf : fX8_pastOf M a1 = some (r, M')) : x_cI l g 0 yX8_pastOf cX8_pastOf 5 .int 1 22 [.ref (g.2.2.1 1), .ref (g.2.2.1 a1)] M (fun v N => v = r ∧ N = M') := by
  refine x_stI RX8 (by decide) rfl (Nat.le_of_ble_eq_true rfl) ?_
  intro p e s m args below meth c Q ls C hw ret hl
  obtain ⟨hx, hb, hml, hown, hB, -⟩ := id C
  have hl : lv_has ls 5 [(0, .ref (g.2.2.1 1)), (1, .ref (g.2.2.1 a1))] := hl
  unfold fX8_pastOf at hf
  refine lv_iconst (v := (0 : Int32)) hx hb dX8_pastOf_0 (by decide) ?_
  refine lv_istore_n (lv' := [(2, .int (0 : Int32)), (0, .ref (g.2.2.1 1)), (1, .ref (g.2.2.1 a1))]) hx hb dX8_pastOf_1 rfl hl (by decide) rfl (fun ls hl => ?_)
  refine lv_iconst (v := (0 : Int32)) hx hb dX8_pastOf_2 (by decide) ?_
  refine lv_istore_n (lv' := [(3, .int (0 : Int32)), (2, .int (0 : Int32)), (0, .ref (g.2.2.1 1)), (1, .ref (g.2.2.1 a1))]) hx hb dX8_pastOf_3 rfl hl (by decide) rfl (fun ls hl => ?_)
  have hL_22 : ∀ (n_4 : Nat) (H : Heap) (locs : List Loc) (M_3 : xM) (x2_1 : Int32) (x3_2 : Int32) (ls : Array Slot) , lv_has ls 5 [(0, .ref (g.2.2.1 1)), (1, .ref (g.2.2.1 a1)), (2, .int x2_1), (3, .int x3_2)] → x_w g 0 s H locs M_3 → fX8_pastOf_L4 a1 n_4 M_3 x2_1 x3_2 = some (r, M') → W p l e (x_rm 1 22) s m args below meth c H locs 0 0 Q (F0 m 4 ls []) := by
    intro n_4
    induction n_4 with
    | zero =>
      intro H locs M_3 x2_1 x3_2 ls  hl hw hf
      rw [fX8_pastOf_L4] at hf
      cases hf
    | succ n_4 ih_5 =>
      intro H locs M_3 x2_1 x3_2 ls  hl hw hf
      rw [fX8_pastOf_L4] at hf
      refine lv_iload_n hx hb dX8_pastOf_4 rfl (lv_at hl 3 rfl) ?_
      refine lv_aload_n hx hb dX8_pastOf_5 rfl (lv_at hl 0 rfl) ?_
      refine fg_X8_24 C hw ic0_1 dX8_pastOf_6 ?_
      refine lv_icmp_ge (tgt := 68) hx hb dX8_pastOf_9 (by decide) (fun q_6 => ?_) (fun q_6 => ?_)
      · have hf := x_iP hf q_6
        refine lv_iload_n hx hb dX8_pastOf_68 rfl (lv_at hl 2 rfl) ?_
        exact ret hf dX8_pastOf_69 hw
      · have hf := x_iN hf q_6
        refine lv_aload_n hx hb dX8_pastOf_12 rfl (lv_at hl 1 rfl) ?_
        refine fg_X8_168 C hw ha1 dX8_pastOf_13 ?_
        refine lv_aload_n hx hb dX8_pastOf_16 rfl (lv_at hl 0 rfl) ?_
        refine fg_X8_47 (k2 := 22) C hw ic0_1 rfl dX8_pastOf_17 ?_
        refine lv_iload_n hx hb dX8_pastOf_20 rfl (lv_at hl 3 rfl) ?_
        obtain ⟨q_7, hf⟩ := x_gE hf
        refine x_rld (t := 4) (k2 := (169 + x3_2.toNatClampNeg)) C hw ic0_22 (by decide) rfl q_7 (rr0_22 _) dX8_pastOf_21 ?_
        have h_8 : x_is 0 (169 + x3_2.toNatClampNeg) 2 := (rr0_22 x3_2.toNatClampNeg) ▸ x_ta ic0_22 (by decide) (x_ilt q_7)
        refine fg_X8_171 C hw h_8 dX8_pastOf_22 ?_
        refine lv_isub hx hb dX8_pastOf_25 ?_
        refine lv_topi (fun x4_9 ex4_9 => ?_)
        have hf := x_lE ex4_9 hf
        refine lv_istore (lv' := [(4, .int x4_9), (0, .ref (g.2.2.1 1)), (1, .ref (g.2.2.1 a1)), (2, .int x2_1), (3, .int x3_2)]) hx hb dX8_pastOf_26 hl (by decide) rfl (fun ls hl => ?_)
        refine lv_aload_n hx hb dX8_pastOf_28 rfl (lv_at hl 1 rfl) ?_
        refine fg_X8_47 (k2 := 22) C hw ic0_1 rfl dX8_pastOf_29 ?_
        refine lv_iload_n hx hb dX8_pastOf_32 rfl (lv_at hl 4 rfl) ?_
        obtain ⟨q_10, hf⟩ := x_gE hf
        refine x_rld (t := 4) (k2 := (169 + x3_2.toNatClampNeg)) C hw ic0_22 (by decide) rfl q_10 (rr0_22 _) dX8_pastOf_33 ?_
        refine fg_X8_172 C hw h_8 dX8_pastOf_34 ?_
        refine lv_aload_n hx hb dX8_pastOf_37 rfl (lv_at hl 2 rfl) ?_
        refine fg_X8_175 C hw ha1 dX8_pastOf_38 ?_
        obtain ⟨k62_12, ek62_12, hf⟩ := x_jE hf
        have hk62_12 : ∀ (H : Heap) (locs : List Loc) (M_13 : xM) (x2_11 : Int32) (ls : Array Slot) , lv_has ls 5 [(0, .ref (g.2.2.1 1)), (1, .ref (g.2.2.1 a1)), (3, .int x3_2), (2, .int x2_11)] → x_w g 0 s H locs M_13 → k62_12 M_13 x2_11 = some (r, M') → W p l e (x_rm 1 22) s m args below meth c H locs 0 0 Q (F0 m 62 ls []) := by
          intro H locs M_13 x2_11 ls  hl hw hf
          rw [ek62_12] at hf
          obtain ⟨x3_14, ex3_14⟩ : ∃ z : Int32, z = (x3_2 + (1 : Int32)) := ⟨_, rfl⟩
          have hf := x_lE ex3_14 hf
          refine lv_iinc (v := x3_14) (lv' := [(3, .int x3_14), (0, .ref (g.2.2.1 1)), (1, .ref (g.2.2.1 a1)), (2, .int x2_11)]) hx hb dX8_pastOf_62 hl (k := 2) rfl (by rw [ex3_14]; rfl) (by decide) rfl (fun ls hl => ?_)
          refine lv_goto (tgt := 4) hx hb dX8_pastOf_65 (by decide) ?_
          exact ih_5 _ _ _ _ _ _ (lv_sub hl [1, 2, 3, 0] rfl) hw hf
        refine lv_icmp_ne (tgt := 62) hx hb dX8_pastOf_41 (by decide) (fun q_15 => ?_) (fun q_15 => ?_)
        · have hf := x_iN hf q_15
          exact hk62_12 _ _ _ _ _ (lv_sub hl [1, 2, 4, 3] rfl) hw hf
        · have hf := x_iP hf q_15
          refine lv_iload hx hb dX8_pastOf_44 (lv_at hl 0 rfl) ?_
          refine lv_iconst (v := (1 : Int32)) hx hb dX8_pastOf_46 (by decide) ?_
          refine lv_aload_n hx hb dX8_pastOf_47 rfl (lv_at hl 1 rfl) ?_
          refine fg_X8_60 (k2 := 23) C hw ic0_1 rfl dX8_pastOf_48 ?_
          refine lv_iconst (v := (1 : Int32)) hx hb dX8_pastOf_51 (by decide) ?_
          refine x_ald (j := 1) C hw ic0_23 (x_inl rfl) rfl dX8_pastOf_52 ?_
          obtain ⟨tv_19, tM_17, c_18, hf⟩ := x_bE hf
          refine x_nI C hw hl.1 [.int x4_9, .int (1 : Int32), .int (M_3 23 1)] [] (mX10_isWithin l g c_18) lk_X8_106 (by decide) rfl (Nat.le_of_ble_eq_true rfl) ⟨Nat.zero_le _, Nat.zero_le _⟩ dX8_pastOf_53 (fun v_19 M_17 H locs hN hw => ?_)
          obtain ⟨rfl, rfl⟩ := hN
          refine lv_if_eq (tgt := 62) hx hb dX8_pastOf_56 (by decide) (fun q_20 => ?_) (fun q_20 => ?_)
          · have hf := x_iP hf q_20
            exact hk62_12 _ _ _ _ _ (lv_sub hl [1, 2, 4, 3] rfl) hw hf
          · have hf := x_iN hf q_20
            obtain ⟨x2_21, ex2_21⟩ : ∃ z : Int32, z = (x2_1 + (1 : Int32)) := ⟨_, rfl⟩
            have hf := x_lE ex2_21 hf
            refine lv_iinc (v := x2_21) (lv' := [(2, .int x2_21), (4, .int x4_9), (0, .ref (g.2.2.1 1)), (1, .ref (g.2.2.1 a1)), (3, .int x3_2)]) hx hb dX8_pastOf_59 hl (k := 3) rfl (by rw [ex2_21]; rfl) (by decide) rfl (fun ls hl => ?_)
            exact hk62_12 _ _ _ _ _ (lv_sub hl [2, 3, 4, 0] rfl) hw hf
  exact hL_22 _ _ _ _ _ _ _ (lv_sub hl [2, 3, 1, 0] rfl) hw hf
noncomputable def fX8_youth (M : xM) (a1 : Int32) : Option (Int32 × xM) := x_g a1 12 (x_b (fX4_isOfKind M (31 + a1.toNatClampNeg) (1 : Int32)) fun v_5 M_3 => x_b (fX10_oneIf M_3 v_5) fun v_8 M_6 => some (v_8, M_6))
set_option maxRecDepth 100000 in
set_option maxHeartbeats 4000000 in
theorem mX8_youth (l : Launch) (g : xG) {a1 : Int32} {r : Int32} {M' : xM}  {M : xM} (hf : fX8_youth M a1 = some (r, M')) : x_cI l g 0 yX8_youth cX8_youth 2 .int 1 21 [.ref (g.2.2.1 1), .int a1] M (fun v N => v = r ∧ N = M') := by
  refine x_stI RX8 (by decide) rfl (Nat.le_of_ble_eq_true rfl) ?_
  intro p e s m args below meth c Q ls C hw ret hl
  obtain ⟨hx, hb, hml, hown, hB, -⟩ := id C
  have hl : lv_has ls 2 [(0, .ref (g.2.2.1 1)), (1, .int a1)] := hl
  unfold fX8_youth at hf
  refine lv_aload_n hx hb dX8_youth_0 rfl (lv_at hl 0 rfl) ?_
  refine fg_X8_29 (k2 := 19) C hw ic0_1 rfl dX8_youth_1 ?_
  refine lv_iload_n hx hb dX8_youth_4 rfl (lv_at hl 1 rfl) ?_
  obtain ⟨q_1, hf⟩ := x_gE hf
  refine x_rld (t := 5) (k2 := (31 + a1.toNatClampNeg)) C hw ic0_19 (by decide) rfl q_1 (rr0_19 _) dX8_youth_5 ?_
  have h_2 : x_is 0 (31 + a1.toNatClampNeg) 4 := (rr0_19 a1.toNatClampNeg) ▸ x_ta ic0_19 (by decide) (x_ilt q_1)
  refine lv_iconst (v := (1 : Int32)) hx hb dX8_youth_6 (by decide) ?_
  obtain ⟨tv_5, tM_3, c_4, hf⟩ := x_bE hf
  refine x_vI C hw hl.1 [.int (1 : Int32)] [] (mX4_isOfKind l g h_2 c_4) lk_X8_139 h_2 (by decide) rfl (by decide) rfl (Nat.le_of_ble_eq_true rfl) ⟨Nat.zero_le _, Nat.zero_le _⟩ dX8_youth_7 (fun v_5 M_3 H locs hN hw => ?_)
  obtain ⟨rfl, rfl⟩ := hN
  obtain ⟨tv_8, tM_6, c_7, hf⟩ := x_bE hf
  refine x_nI C hw hl.1 [.int v_5] [] (mX10_oneIf l g c_7) lk_X8_152 (by decide) rfl (Nat.le_of_ble_eq_true rfl) ⟨Nat.zero_le _, Nat.zero_le _⟩ dX8_youth_10 (fun v_8 M_6 H locs hN hw => ?_)
  obtain ⟨rfl, rfl⟩ := hN
  exact ret hf dX8_youth_13 hw
noncomputable def fX10_bounded (M : xM) (a1 : Int32) (a2 : Int32) (a3 : Int32) : Option (Int32 × xM) := some ((if a3 < (if a1 < a2 then a2 else a1) then a3 else (if a1 < a2 then a2 else a1)), M)
set_option maxRecDepth 100000 in
set_option maxHeartbeats 4000000 in
theorem mX10_bounded (l : Launch) (g : xG) {a1 : Int32} {a2 : Int32} {a3 : Int32} {r : Int32} {M' : xM}  {M : xM} (hf : fX10_bounded M a1 a2 a3 = some (r, M')) : x_cI l g 0 yX10_bounded cX10_bounded 3 .int 1 23 [.int a1, .int a2, .int a3] M (fun v N => v = r ∧ N = M') := by
  refine x_stI RX10 (by decide) rfl (Nat.le_of_ble_eq_true rfl) ?_
  intro p e s m args below meth c Q ls C hw ret hl
  obtain ⟨hx, hb, hml, hown, hB, -⟩ := id C
  have hl : lv_has ls 3 [(0, .int a1), (1, .int a2), (2, .int a3)] := hl
  unfold fX10_bounded at hf
  refine lv_iload_n hx hb dX10_bounded_0 rfl (lv_at hl 0 rfl) ?_
  refine lv_iload_n hx hb dX10_bounded_1 rfl (lv_at hl 1 rfl) ?_
  refine mm_X10_326 C hl.1 (Nat.le_of_ble_eq_true rfl) (Nat.le_of_ble_eq_true rfl) ⟨Nat.zero_le _, Nat.zero_le _⟩ dX10_bounded_2 ?_
  refine lv_iload_n hx hb dX10_bounded_5 rfl (lv_at hl 2 rfl) ?_
  refine mm_X10_224 C hl.1 (Nat.le_of_ble_eq_true rfl) (Nat.le_of_ble_eq_true rfl) ⟨Nat.zero_le _, Nat.zero_le _⟩ dX10_bounded_6 ?_
  exact ret hf dX10_bounded_9 hw
noncomputable def fX8_daysFor (M : xM) (a1 : Nat) : Option (Int32 × xM) := x_v (fX7_set M (103 : Int32) (M a1 3)) fun M_1 => x_b (fX8_pastOf M_1 a1) fun v_5 M_3 => x_v (fX7_set M_3 (112 : Int32) v_5) fun M_6 => x_b (fX0_isOfKind M_6 a1 (2 : Int32)) fun v_10 M_8 => x_b (fX10_oneIf M_8 v_10) fun v_13 M_11 => x_v (fX7_set M_11 (97 : Int32) v_13) fun M_14 => x_v (fX7_set M_14 (107 : Int32) (M_14 a1 0)) fun M_16 => x_b (fX8_youth M_16 (M_16 a1 1)) fun v_20 M_18 => x_v (fX7_set M_18 (121 : Int32) v_20) fun M_21 => x_b (fX7_workOut M_21 (0 : Int32)) fun v_25 M_23 => x_b (fX10_bounded M_23 v_25 (M_23 23 2) (M_23 23 3)) fun v_30 M_28 => some (v_30, M_28)
set_option maxRecDepth 100000 in
set_option maxHeartbeats 4000000 in
theorem mX8_daysFor (l : Launch) (g : xG) {a1 : Nat} {r : Int32} {M' : xM} (ha1 : x_is 0 a1 0) {M : xM} (hf : fX8_daysFor M a1 = some (r, M')) : x_cI l g 0 yX8_daysFor cX8_daysFor 2 .int 3 68 [.ref (g.2.2.1 1), .ref (g.2.2.1 a1)] M (fun v N => v = r ∧ N = M') := by
  refine x_stI RX8 (by decide) rfl (Nat.le_of_ble_eq_true rfl) ?_
  intro p e s m args below meth c Q ls C hw ret hl
  obtain ⟨hx, hb, hml, hown, hB, -⟩ := id C
  have hl : lv_has ls 2 [(0, .ref (g.2.2.1 1)), (1, .ref (g.2.2.1 a1))] := hl
  unfold fX8_daysFor at hf
  refine lv_aload_n hx hb dX8_daysFor_0 rfl (lv_at hl 0 rfl) ?_
  refine fg_X8_76 (k2 := 28) C hw ic0_1 rfl dX8_daysFor_1 ?_
  refine lv_bipush (v := (103 : Int32)) hx hb dX8_daysFor_4 (by decide) ?_
  refine lv_aload_n hx hb dX8_daysFor_6 rfl (lv_at hl 1 rfl) ?_
  refine fg_X8_176 C hw ha1 dX8_daysFor_7 ?_
  obtain ⟨tM_1, c_2, hf⟩ := x_vE hf
  refine x_vV C hw hl.1 [.int (103 : Int32), .int (M a1 3)] [] (mX7_set l g c_2) lk_X8_179 ic0_28 (by decide) rfl (by decide) rfl (Nat.le_of_ble_eq_true rfl) ⟨Nat.zero_le _, Nat.zero_le _⟩ dX8_daysFor_10 (fun M_1 H locs hN hw => ?_)
  obtain rfl := hN
  refine lv_aload_n hx hb dX8_daysFor_13 rfl (lv_at hl 0 rfl) ?_
  refine fg_X8_76 (k2 := 28) C hw ic0_1 rfl dX8_daysFor_14 ?_
  refine lv_bipush (v := (112 : Int32)) hx hb dX8_daysFor_17 (by decide) ?_
  refine lv_aload_n hx hb dX8_daysFor_19 rfl (lv_at hl 0 rfl) ?_
  refine lv_aload_n hx hb dX8_daysFor_20 rfl (lv_at hl 1 rfl) ?_
  obtain ⟨tv_5, tM_3, c_4, hf⟩ := x_bE hf
  refine x_vI C hw hl.1 [.ref (g.2.2.1 a1)] [.int (112 : Int32), .ref (g.2.2.1 28)] (mX8_pastOf l g ha1 c_4) lk_X8_183 ic0_1 (by decide) rfl (by decide) rfl (Nat.le_of_ble_eq_true rfl) ⟨Nat.zero_le _, Nat.zero_le _⟩ dX8_daysFor_21 (fun v_5 M_3 H locs hN hw => ?_)
  obtain ⟨rfl, rfl⟩ := hN
  obtain ⟨tM_6, c_7, hf⟩ := x_vE hf
  refine x_vV C hw hl.1 [.int (112 : Int32), .int v_5] [] (mX7_set l g c_7) lk_X8_179 ic0_28 (by decide) rfl (by decide) rfl (Nat.le_of_ble_eq_true rfl) ⟨Nat.zero_le _, Nat.zero_le _⟩ dX8_daysFor_24 (fun M_6 H locs hN hw => ?_)
  obtain rfl := hN
  refine lv_aload_n hx hb dX8_daysFor_27 rfl (lv_at hl 0 rfl) ?_
  refine fg_X8_76 (k2 := 28) C hw ic0_1 rfl dX8_daysFor_28 ?_
  refine lv_bipush (v := (97 : Int32)) hx hb dX8_daysFor_31 (by decide) ?_
  refine lv_aload_n hx hb dX8_daysFor_33 rfl (lv_at hl 1 rfl) ?_
  refine lv_iconst (v := (2 : Int32)) hx hb dX8_daysFor_34 (by decide) ?_
  obtain ⟨tv_10, tM_8, c_9, hf⟩ := x_bE hf
  refine x_vI C hw hl.1 [.int (2 : Int32)] [.int (97 : Int32), .ref (g.2.2.1 28)] (mX0_isOfKind l g ha1 c_9) lk_X8_187 ha1 (by decide) rfl (by decide) rfl (Nat.le_of_ble_eq_true rfl) ⟨Nat.zero_le _, Nat.zero_le _⟩ dX8_daysFor_35 (fun v_10 M_8 H locs hN hw => ?_)
  obtain ⟨rfl, rfl⟩ := hN
  obtain ⟨tv_13, tM_11, c_12, hf⟩ := x_bE hf
  refine x_nI C hw hl.1 [.int v_10] [.int (97 : Int32), .ref (g.2.2.1 28)] (mX10_oneIf l g c_12) lk_X8_152 (by decide) rfl (Nat.le_of_ble_eq_true rfl) ⟨Nat.zero_le _, Nat.zero_le _⟩ dX8_daysFor_38 (fun v_13 M_11 H locs hN hw => ?_)
  obtain ⟨rfl, rfl⟩ := hN
  obtain ⟨tM_14, c_15, hf⟩ := x_vE hf
  refine x_vV C hw hl.1 [.int (97 : Int32), .int v_13] [] (mX7_set l g c_15) lk_X8_179 ic0_28 (by decide) rfl (by decide) rfl (Nat.le_of_ble_eq_true rfl) ⟨Nat.zero_le _, Nat.zero_le _⟩ dX8_daysFor_41 (fun M_14 H locs hN hw => ?_)
  obtain rfl := hN
  refine lv_aload_n hx hb dX8_daysFor_44 rfl (lv_at hl 0 rfl) ?_
  refine fg_X8_76 (k2 := 28) C hw ic0_1 rfl dX8_daysFor_45 ?_
  refine lv_bipush (v := (107 : Int32)) hx hb dX8_daysFor_48 (by decide) ?_
  refine lv_aload_n hx hb dX8_daysFor_50 rfl (lv_at hl 1 rfl) ?_
  refine fg_X8_188 C hw ha1 dX8_daysFor_51 ?_
  obtain ⟨tM_16, c_17, hf⟩ := x_vE hf
  refine x_vV C hw hl.1 [.int (107 : Int32), .int (M_14 a1 0)] [] (mX7_set l g c_17) lk_X8_179 ic0_28 (by decide) rfl (by decide) rfl (Nat.le_of_ble_eq_true rfl) ⟨Nat.zero_le _, Nat.zero_le _⟩ dX8_daysFor_54 (fun M_16 H locs hN hw => ?_)
  obtain rfl := hN
  refine lv_aload_n hx hb dX8_daysFor_57 rfl (lv_at hl 0 rfl) ?_
  refine fg_X8_76 (k2 := 28) C hw ic0_1 rfl dX8_daysFor_58 ?_
  refine lv_bipush (v := (121 : Int32)) hx hb dX8_daysFor_61 (by decide) ?_
  refine lv_aload_n hx hb dX8_daysFor_63 rfl (lv_at hl 0 rfl) ?_
  refine lv_aload_n hx hb dX8_daysFor_64 rfl (lv_at hl 1 rfl) ?_
  refine fg_X8_175 C hw ha1 dX8_daysFor_65 ?_
  obtain ⟨tv_20, tM_18, c_19, hf⟩ := x_bE hf
  refine x_vI C hw hl.1 [.int (M_16 a1 1)] [.int (121 : Int32), .ref (g.2.2.1 28)] (mX8_youth l g c_19) lk_X8_191 ic0_1 (by decide) rfl (by decide) rfl (Nat.le_of_ble_eq_true rfl) ⟨Nat.zero_le _, Nat.zero_le _⟩ dX8_daysFor_68 (fun v_20 M_18 H locs hN hw => ?_)
  obtain ⟨rfl, rfl⟩ := hN
  obtain ⟨tM_21, c_22, hf⟩ := x_vE hf
  refine x_vV C hw hl.1 [.int (121 : Int32), .int v_20] [] (mX7_set l g c_22) lk_X8_179 ic0_28 (by decide) rfl (by decide) rfl (Nat.le_of_ble_eq_true rfl) ⟨Nat.zero_le _, Nat.zero_le _⟩ dX8_daysFor_71 (fun M_21 H locs hN hw => ?_)
  obtain rfl := hN
  refine lv_aload_n hx hb dX8_daysFor_74 rfl (lv_at hl 0 rfl) ?_
  refine fg_X8_76 (k2 := 28) C hw ic0_1 rfl dX8_daysFor_75 ?_
  refine lv_aload_n hx hb dX8_daysFor_78 rfl (lv_at hl 0 rfl) ?_
  refine fg_X8_69 (k2 := 25) C hw ic0_1 rfl dX8_daysFor_79 ?_
  refine lv_iconst (v := (0 : Int32)) hx hb dX8_daysFor_82 (by decide) ?_
  obtain ⟨tv_25, tM_23, c_24, hf⟩ := x_bE hf
  refine x_vI C hw hl.1 [.ref (g.2.2.1 25), .int (0 : Int32)] [] (mX7_workOut l g c_24) lk_X8_195 ic0_28 (by decide) rfl (by decide) rfl (Nat.le_of_ble_eq_true rfl) ⟨Nat.zero_le _, Nat.zero_le _⟩ dX8_daysFor_83 (fun v_25 M_23 H locs hN hw => ?_)
  obtain ⟨rfl, rfl⟩ := hN
  refine lv_aload_n hx hb dX8_daysFor_86 rfl (lv_at hl 0 rfl) ?_
  refine fg_X8_60 (k2 := 23) C hw ic0_1 rfl dX8_daysFor_87 ?_
  refine lv_iconst (v := (2 : Int32)) hx hb dX8_daysFor_90 (by decide) ?_
  refine x_ald (j := 2) C hw ic0_23 (x_inl rfl) rfl dX8_daysFor_91 ?_
  refine lv_aload_n hx hb dX8_daysFor_92 rfl (lv_at hl 0 rfl) ?_
  refine fg_X8_60 (k2 := 23) C hw ic0_1 rfl dX8_daysFor_93 ?_
  refine lv_iconst (v := (3 : Int32)) hx hb dX8_daysFor_96 (by decide) ?_
  refine x_ald (j := 3) C hw ic0_23 (x_inl rfl) rfl dX8_daysFor_97 ?_
  obtain ⟨tv_30, tM_28, c_29, hf⟩ := x_bE hf
  refine x_nI C hw hl.1 [.int v_25, .int (M_23 23 2), .int (M_23 23 3)] [] (mX10_bounded l g c_29) lk_X8_199 (by decide) rfl (Nat.le_of_ble_eq_true rfl) ⟨Nat.zero_le _, Nat.zero_le _⟩ dX8_daysFor_98 (fun v_30 M_28 H locs hN hw => ?_)
  obtain ⟨rfl, rfl⟩ := hN
  exact ret hf dX8_daysFor_101 hw
noncomputable def fX8_sumFor (M : xM) (a1 : Int32) (a2 : Int32) (a3 : Int32) : Option (Int32 × xM) := x_b (fX8_earnings M a1 a2 a3) fun v_3 M_1 => x_v (fX7_set M_1 (105 : Int32) v_3) fun M_4 => x_b (fX8_valueOf M_4 a1 (1 : Int32) a2 a3) fun v_8 M_6 => x_v (fX7_set M_6 (110 : Int32) v_8) fun M_9 => x_b (fX8_valueOf M_9 a1 (2 : Int32) a2 a3) fun v_13 M_11 => x_v (fX7_set M_11 (119 : Int32) v_13) fun M_14 => x_b (fX8_valueOf M_14 a1 (3 : Int32) a2 a3) fun v_18 M_16 => x_v (fX7_set M_16 (100 : Int32) v_18) fun M_19 => x_g a1 12 (x_b (fX4_isOfKind M_19 (31 + a1.toNatClampNeg) (2 : Int32)) fun v_25 M_23 => x_b (fX10_oneIf M_23 v_25) fun v_28 M_26 => x_v (fX7_set M_26 (115 : Int32) v_28) fun M_29 => x_b (fX8_youth M_29 a1) fun v_33 M_31 => x_v (fX7_set M_31 (121 : Int32) v_33) fun M_34 => x_b (fX7_workOut M_34 (1 : Int32)) fun v_38 M_36 => x_b (fX10_bounded M_36 v_38 (M_36 23 6) (M_36 23 7)) fun v_43 M_41 => some (v_43, M_41))
set_option maxRecDepth 100000 in
set_option maxHeartbeats 4000000 in
theorem mX8_sumFor (l : Launch) (g : xG) {a1 : Int32} {a2 : Int32} {a3 : Int32} {r : Int32} {M' : xM}  {M : xM} (hf : fX8_sumFor M a1 a2 a3 = some (r, M')) : x_cI l g 0 yX8_sumFor cX8_sumFor 4 .int 4 99 [.ref (g.2.2.1 1), .int a1, .int a2, .int a3] M (fun v N => v = r ∧ N = M') := by
  refine x_stI RX8 (by decide) rfl (Nat.le_of_ble_eq_true rfl) ?_
  intro p e s m args below meth c Q ls C hw ret hl
  obtain ⟨hx, hb, hml, hown, hB, -⟩ := id C
  have hl : lv_has ls 4 [(0, .ref (g.2.2.1 1)), (1, .int a1), (2, .int a2), (3, .int a3)] := hl
  unfold fX8_sumFor at hf
  refine lv_aload_n hx hb dX8_sumFor_0 rfl (lv_at hl 0 rfl) ?_
  refine fg_X8_76 (k2 := 28) C hw ic0_1 rfl dX8_sumFor_1 ?_
  refine lv_bipush (v := (105 : Int32)) hx hb dX8_sumFor_4 (by decide) ?_
  refine lv_aload_n hx hb dX8_sumFor_6 rfl (lv_at hl 0 rfl) ?_
  refine lv_iload_n hx hb dX8_sumFor_7 rfl (lv_at hl 1 rfl) ?_
  refine lv_iload_n hx hb dX8_sumFor_8 rfl (lv_at hl 2 rfl) ?_
  refine lv_iload_n hx hb dX8_sumFor_9 rfl (lv_at hl 3 rfl) ?_
  obtain ⟨tv_3, tM_1, c_2, hf⟩ := x_bE hf
  refine x_vI C hw hl.1 [.int a1, .int a2, .int a3] [.int (105 : Int32), .ref (g.2.2.1 28)] (mX8_earnings l g c_2) lk_X8_202 ic0_1 (by decide) rfl (by decide) rfl (Nat.le_of_ble_eq_true rfl) ⟨Nat.zero_le _, Nat.zero_le _⟩ dX8_sumFor_10 (fun v_3 M_1 H locs hN hw => ?_)
  obtain ⟨rfl, rfl⟩ := hN
  obtain ⟨tM_4, c_5, hf⟩ := x_vE hf
  refine x_vV C hw hl.1 [.int (105 : Int32), .int v_3] [] (mX7_set l g c_5) lk_X8_179 ic0_28 (by decide) rfl (by decide) rfl (Nat.le_of_ble_eq_true rfl) ⟨Nat.zero_le _, Nat.zero_le _⟩ dX8_sumFor_13 (fun M_4 H locs hN hw => ?_)
  obtain rfl := hN
  refine lv_aload_n hx hb dX8_sumFor_16 rfl (lv_at hl 0 rfl) ?_
  refine fg_X8_76 (k2 := 28) C hw ic0_1 rfl dX8_sumFor_17 ?_
  refine lv_bipush (v := (110 : Int32)) hx hb dX8_sumFor_20 (by decide) ?_
  refine lv_aload_n hx hb dX8_sumFor_22 rfl (lv_at hl 0 rfl) ?_
  refine lv_iload_n hx hb dX8_sumFor_23 rfl (lv_at hl 1 rfl) ?_
  refine lv_iconst (v := (1 : Int32)) hx hb dX8_sumFor_24 (by decide) ?_
  refine lv_iload_n hx hb dX8_sumFor_25 rfl (lv_at hl 2 rfl) ?_
  refine lv_iload_n hx hb dX8_sumFor_26 rfl (lv_at hl 3 rfl) ?_
  obtain ⟨tv_8, tM_6, c_7, hf⟩ := x_bE hf
  refine x_vI C hw hl.1 [.int a1, .int (1 : Int32), .int a2, .int a3] [.int (110 : Int32), .ref (g.2.2.1 28)] (mX8_valueOf l g c_7) lk_X8_135 ic0_1 (by decide) rfl (by decide) rfl (Nat.le_of_ble_eq_true rfl) ⟨Nat.zero_le _, Nat.zero_le _⟩ dX8_sumFor_27 (fun v_8 M_6 H locs hN hw => ?_)
  obtain ⟨rfl, rfl⟩ := hN
  obtain ⟨tM_9, c_10, hf⟩ := x_vE hf
  refine x_vV C hw hl.1 [.int (110 : Int32), .int v_8] [] (mX7_set l g c_10) lk_X8_179 ic0_28 (by decide) rfl (by decide) rfl (Nat.le_of_ble_eq_true rfl) ⟨Nat.zero_le _, Nat.zero_le _⟩ dX8_sumFor_30 (fun M_9 H locs hN hw => ?_)
  obtain rfl := hN
  refine lv_aload_n hx hb dX8_sumFor_33 rfl (lv_at hl 0 rfl) ?_
  refine fg_X8_76 (k2 := 28) C hw ic0_1 rfl dX8_sumFor_34 ?_
  refine lv_bipush (v := (119 : Int32)) hx hb dX8_sumFor_37 (by decide) ?_
  refine lv_aload_n hx hb dX8_sumFor_39 rfl (lv_at hl 0 rfl) ?_
  refine lv_iload_n hx hb dX8_sumFor_40 rfl (lv_at hl 1 rfl) ?_
  refine lv_iconst (v := (2 : Int32)) hx hb dX8_sumFor_41 (by decide) ?_
  refine lv_iload_n hx hb dX8_sumFor_42 rfl (lv_at hl 2 rfl) ?_
  refine lv_iload_n hx hb dX8_sumFor_43 rfl (lv_at hl 3 rfl) ?_
  obtain ⟨tv_13, tM_11, c_12, hf⟩ := x_bE hf
  refine x_vI C hw hl.1 [.int a1, .int (2 : Int32), .int a2, .int a3] [.int (119 : Int32), .ref (g.2.2.1 28)] (mX8_valueOf l g c_12) lk_X8_135 ic0_1 (by decide) rfl (by decide) rfl (Nat.le_of_ble_eq_true rfl) ⟨Nat.zero_le _, Nat.zero_le _⟩ dX8_sumFor_44 (fun v_13 M_11 H locs hN hw => ?_)
  obtain ⟨rfl, rfl⟩ := hN
  obtain ⟨tM_14, c_15, hf⟩ := x_vE hf
  refine x_vV C hw hl.1 [.int (119 : Int32), .int v_13] [] (mX7_set l g c_15) lk_X8_179 ic0_28 (by decide) rfl (by decide) rfl (Nat.le_of_ble_eq_true rfl) ⟨Nat.zero_le _, Nat.zero_le _⟩ dX8_sumFor_47 (fun M_14 H locs hN hw => ?_)
  obtain rfl := hN
  refine lv_aload_n hx hb dX8_sumFor_50 rfl (lv_at hl 0 rfl) ?_
  refine fg_X8_76 (k2 := 28) C hw ic0_1 rfl dX8_sumFor_51 ?_
  refine lv_bipush (v := (100 : Int32)) hx hb dX8_sumFor_54 (by decide) ?_
  refine lv_aload_n hx hb dX8_sumFor_56 rfl (lv_at hl 0 rfl) ?_
  refine lv_iload_n hx hb dX8_sumFor_57 rfl (lv_at hl 1 rfl) ?_
  refine lv_iconst (v := (3 : Int32)) hx hb dX8_sumFor_58 (by decide) ?_
  refine lv_iload_n hx hb dX8_sumFor_59 rfl (lv_at hl 2 rfl) ?_
  refine lv_iload_n hx hb dX8_sumFor_60 rfl (lv_at hl 3 rfl) ?_
  obtain ⟨tv_18, tM_16, c_17, hf⟩ := x_bE hf
  refine x_vI C hw hl.1 [.int a1, .int (3 : Int32), .int a2, .int a3] [.int (100 : Int32), .ref (g.2.2.1 28)] (mX8_valueOf l g c_17) lk_X8_135 ic0_1 (by decide) rfl (by decide) rfl (Nat.le_of_ble_eq_true rfl) ⟨Nat.zero_le _, Nat.zero_le _⟩ dX8_sumFor_61 (fun v_18 M_16 H locs hN hw => ?_)
  obtain ⟨rfl, rfl⟩ := hN
  obtain ⟨tM_19, c_20, hf⟩ := x_vE hf
  refine x_vV C hw hl.1 [.int (100 : Int32), .int v_18] [] (mX7_set l g c_20) lk_X8_179 ic0_28 (by decide) rfl (by decide) rfl (Nat.le_of_ble_eq_true rfl) ⟨Nat.zero_le _, Nat.zero_le _⟩ dX8_sumFor_64 (fun M_19 H locs hN hw => ?_)
  obtain rfl := hN
  refine lv_aload_n hx hb dX8_sumFor_67 rfl (lv_at hl 0 rfl) ?_
  refine fg_X8_76 (k2 := 28) C hw ic0_1 rfl dX8_sumFor_68 ?_
  refine lv_bipush (v := (115 : Int32)) hx hb dX8_sumFor_71 (by decide) ?_
  refine lv_aload_n hx hb dX8_sumFor_73 rfl (lv_at hl 0 rfl) ?_
  refine fg_X8_29 (k2 := 19) C hw ic0_1 rfl dX8_sumFor_74 ?_
  refine lv_iload_n hx hb dX8_sumFor_77 rfl (lv_at hl 1 rfl) ?_
  obtain ⟨q_21, hf⟩ := x_gE hf
  refine x_rld (t := 5) (k2 := (31 + a1.toNatClampNeg)) C hw ic0_19 (by decide) rfl q_21 (rr0_19 _) dX8_sumFor_78 ?_
  have h_22 : x_is 0 (31 + a1.toNatClampNeg) 4 := (rr0_19 a1.toNatClampNeg) ▸ x_ta ic0_19 (by decide) (x_ilt q_21)
  refine lv_iconst (v := (2 : Int32)) hx hb dX8_sumFor_79 (by decide) ?_
  obtain ⟨tv_25, tM_23, c_24, hf⟩ := x_bE hf
  refine x_vI C hw hl.1 [.int (2 : Int32)] [.int (115 : Int32), .ref (g.2.2.1 28)] (mX4_isOfKind l g h_22 c_24) lk_X8_139 h_22 (by decide) rfl (by decide) rfl (Nat.le_of_ble_eq_true rfl) ⟨Nat.zero_le _, Nat.zero_le _⟩ dX8_sumFor_80 (fun v_25 M_23 H locs hN hw => ?_)
  obtain ⟨rfl, rfl⟩ := hN
  obtain ⟨tv_28, tM_26, c_27, hf⟩ := x_bE hf
  refine x_nI C hw hl.1 [.int v_25] [.int (115 : Int32), .ref (g.2.2.1 28)] (mX10_oneIf l g c_27) lk_X8_152 (by decide) rfl (Nat.le_of_ble_eq_true rfl) ⟨Nat.zero_le _, Nat.zero_le _⟩ dX8_sumFor_83 (fun v_28 M_26 H locs hN hw => ?_)
  obtain ⟨rfl, rfl⟩ := hN
  obtain ⟨tM_29, c_30, hf⟩ := x_vE hf
  refine x_vV C hw hl.1 [.int (115 : Int32), .int v_28] [] (mX7_set l g c_30) lk_X8_179 ic0_28 (by decide) rfl (by decide) rfl (Nat.le_of_ble_eq_true rfl) ⟨Nat.zero_le _, Nat.zero_le _⟩ dX8_sumFor_86 (fun M_29 H locs hN hw => ?_)
  obtain rfl := hN
  refine lv_aload_n hx hb dX8_sumFor_89 rfl (lv_at hl 0 rfl) ?_
  refine fg_X8_76 (k2 := 28) C hw ic0_1 rfl dX8_sumFor_90 ?_
  refine lv_bipush (v := (121 : Int32)) hx hb dX8_sumFor_93 (by decide) ?_
  refine lv_aload_n hx hb dX8_sumFor_95 rfl (lv_at hl 0 rfl) ?_
  refine lv_iload_n hx hb dX8_sumFor_96 rfl (lv_at hl 1 rfl) ?_
  obtain ⟨tv_33, tM_31, c_32, hf⟩ := x_bE hf
  refine x_vI C hw hl.1 [.int a1] [.int (121 : Int32), .ref (g.2.2.1 28)] (mX8_youth l g c_32) lk_X8_191 ic0_1 (by decide) rfl (by decide) rfl (Nat.le_of_ble_eq_true rfl) ⟨Nat.zero_le _, Nat.zero_le _⟩ dX8_sumFor_97 (fun v_33 M_31 H locs hN hw => ?_)
  obtain ⟨rfl, rfl⟩ := hN
  obtain ⟨tM_34, c_35, hf⟩ := x_vE hf
  refine x_vV C hw hl.1 [.int (121 : Int32), .int v_33] [] (mX7_set l g c_35) lk_X8_179 ic0_28 (by decide) rfl (by decide) rfl (Nat.le_of_ble_eq_true rfl) ⟨Nat.zero_le _, Nat.zero_le _⟩ dX8_sumFor_100 (fun M_34 H locs hN hw => ?_)
  obtain rfl := hN
  refine lv_aload_n hx hb dX8_sumFor_103 rfl (lv_at hl 0 rfl) ?_
  refine fg_X8_76 (k2 := 28) C hw ic0_1 rfl dX8_sumFor_104 ?_
  refine lv_aload_n hx hb dX8_sumFor_107 rfl (lv_at hl 0 rfl) ?_
  refine fg_X8_69 (k2 := 25) C hw ic0_1 rfl dX8_sumFor_108 ?_
  refine lv_iconst (v := (1 : Int32)) hx hb dX8_sumFor_111 (by decide) ?_
  obtain ⟨tv_38, tM_36, c_37, hf⟩ := x_bE hf
  refine x_vI C hw hl.1 [.ref (g.2.2.1 25), .int (1 : Int32)] [] (mX7_workOut l g c_37) lk_X8_195 ic0_28 (by decide) rfl (by decide) rfl (Nat.le_of_ble_eq_true rfl) ⟨Nat.zero_le _, Nat.zero_le _⟩ dX8_sumFor_112 (fun v_38 M_36 H locs hN hw => ?_)
  obtain ⟨rfl, rfl⟩ := hN
  refine lv_aload_n hx hb dX8_sumFor_115 rfl (lv_at hl 0 rfl) ?_
  refine fg_X8_60 (k2 := 23) C hw ic0_1 rfl dX8_sumFor_116 ?_
  refine lv_bipush (v := (6 : Int32)) hx hb dX8_sumFor_119 (by decide) ?_
  refine x_ald (j := 6) C hw ic0_23 (x_inl rfl) rfl dX8_sumFor_121 ?_
  refine lv_aload_n hx hb dX8_sumFor_122 rfl (lv_at hl 0 rfl) ?_
  refine fg_X8_60 (k2 := 23) C hw ic0_1 rfl dX8_sumFor_123 ?_
  refine lv_bipush (v := (7 : Int32)) hx hb dX8_sumFor_126 (by decide) ?_
  refine x_ald (j := 7) C hw ic0_23 (x_inl rfl) rfl dX8_sumFor_128 ?_
  obtain ⟨tv_43, tM_41, c_42, hf⟩ := x_bE hf
  refine x_nI C hw hl.1 [.int v_38, .int (M_36 23 6), .int (M_36 23 7)] [] (mX10_bounded l g c_42) lk_X8_199 (by decide) rfl (Nat.le_of_ble_eq_true rfl) ⟨Nat.zero_le _, Nat.zero_le _⟩ dX8_sumFor_129 (fun v_43 M_41 H locs hN hw => ?_)
  obtain ⟨rfl, rfl⟩ := hN
  exact ret hf dX8_sumFor_132 hw
noncomputable def fX8_hoursFor (M : xM) (a1 : Nat) : Option (Int32 × xM) := x_b (fX2_unpaidDays M a1) fun v_3 M_1 => x_v (fX7_set M_1 (117 : Int32) v_3) fun M_4 => x_b (fX8_youth M_4 (M_4 a1 0)) fun v_8 M_6 => x_v (fX7_set M_6 (121 : Int32) v_8) fun M_9 => x_b (fX7_workOut M_9 (2 : Int32)) fun v_13 M_11 => x_b (fX10_bounded M_11 v_13 (0 : Int32) (9999 : Int32)) fun v_16 M_14 => some (v_16, M_14)
set_option maxRecDepth 100000 in
set_option maxHeartbeats 4000000 in
theorem mX8_hoursFor (l : Launch) (g : xG) {a1 : Nat} {r : Int32} {M' : xM} (ha1 : x_is 0 a1 2) {M : xM} (hf : fX8_hoursFor M a1 = some (r, M')) : x_cI l g 0 yX8_hoursFor cX8_hoursFor 2 .int 3 68 [.ref (g.2.2.1 1), .ref (g.2.2.1 a1)] M (fun v N => v = r ∧ N = M') := by
  refine x_stI RX8 (by decide) rfl (Nat.le_of_ble_eq_true rfl) ?_
  intro p e s m args below meth c Q ls C hw ret hl
  obtain ⟨hx, hb, hml, hown, hB, -⟩ := id C
  have hl : lv_has ls 2 [(0, .ref (g.2.2.1 1)), (1, .ref (g.2.2.1 a1))] := hl
  unfold fX8_hoursFor at hf
  refine lv_aload_n hx hb dX8_hoursFor_0 rfl (lv_at hl 0 rfl) ?_
  refine fg_X8_76 (k2 := 28) C hw ic0_1 rfl dX8_hoursFor_1 ?_
  refine lv_bipush (v := (117 : Int32)) hx hb dX8_hoursFor_4 (by decide) ?_
  refine lv_aload_n hx hb dX8_hoursFor_6 rfl (lv_at hl 1 rfl) ?_
  obtain ⟨tv_3, tM_1, c_2, hf⟩ := x_bE hf
  refine x_vI C hw hl.1 [] [.int (117 : Int32), .ref (g.2.2.1 28)] (mX2_unpaidDays l g ha1 c_2) lk_X8_205 ha1 (by decide) rfl (by decide) rfl (Nat.le_of_ble_eq_true rfl) ⟨Nat.zero_le _, Nat.zero_le _⟩ dX8_hoursFor_7 (fun v_3 M_1 H locs hN hw => ?_)
  obtain ⟨rfl, rfl⟩ := hN
  obtain ⟨tM_4, c_5, hf⟩ := x_vE hf
  refine x_vV C hw hl.1 [.int (117 : Int32), .int v_3] [] (mX7_set l g c_5) lk_X8_179 ic0_28 (by decide) rfl (by decide) rfl (Nat.le_of_ble_eq_true rfl) ⟨Nat.zero_le _, Nat.zero_le _⟩ dX8_hoursFor_10 (fun M_4 H locs hN hw => ?_)
  obtain rfl := hN
  refine lv_aload_n hx hb dX8_hoursFor_13 rfl (lv_at hl 0 rfl) ?_
  refine fg_X8_76 (k2 := 28) C hw ic0_1 rfl dX8_hoursFor_14 ?_
  refine lv_bipush (v := (121 : Int32)) hx hb dX8_hoursFor_17 (by decide) ?_
  refine lv_aload_n hx hb dX8_hoursFor_19 rfl (lv_at hl 0 rfl) ?_
  refine lv_aload_n hx hb dX8_hoursFor_20 rfl (lv_at hl 1 rfl) ?_
  refine fg_X8_172 C hw ha1 dX8_hoursFor_21 ?_
  obtain ⟨tv_8, tM_6, c_7, hf⟩ := x_bE hf
  refine x_vI C hw hl.1 [.int (M_4 a1 0)] [.int (121 : Int32), .ref (g.2.2.1 28)] (mX8_youth l g c_7) lk_X8_191 ic0_1 (by decide) rfl (by decide) rfl (Nat.le_of_ble_eq_true rfl) ⟨Nat.zero_le _, Nat.zero_le _⟩ dX8_hoursFor_24 (fun v_8 M_6 H locs hN hw => ?_)
  obtain ⟨rfl, rfl⟩ := hN
  obtain ⟨tM_9, c_10, hf⟩ := x_vE hf
  refine x_vV C hw hl.1 [.int (121 : Int32), .int v_8] [] (mX7_set l g c_10) lk_X8_179 ic0_28 (by decide) rfl (by decide) rfl (Nat.le_of_ble_eq_true rfl) ⟨Nat.zero_le _, Nat.zero_le _⟩ dX8_hoursFor_27 (fun M_9 H locs hN hw => ?_)
  obtain rfl := hN
  refine lv_aload_n hx hb dX8_hoursFor_30 rfl (lv_at hl 0 rfl) ?_
  refine fg_X8_76 (k2 := 28) C hw ic0_1 rfl dX8_hoursFor_31 ?_
  refine lv_aload_n hx hb dX8_hoursFor_34 rfl (lv_at hl 0 rfl) ?_
  refine fg_X8_69 (k2 := 25) C hw ic0_1 rfl dX8_hoursFor_35 ?_
  refine lv_iconst (v := (2 : Int32)) hx hb dX8_hoursFor_38 (by decide) ?_
  obtain ⟨tv_13, tM_11, c_12, hf⟩ := x_bE hf
  refine x_vI C hw hl.1 [.ref (g.2.2.1 25), .int (2 : Int32)] [] (mX7_workOut l g c_12) lk_X8_195 ic0_28 (by decide) rfl (by decide) rfl (Nat.le_of_ble_eq_true rfl) ⟨Nat.zero_le _, Nat.zero_le _⟩ dX8_hoursFor_39 (fun v_13 M_11 H locs hN hw => ?_)
  obtain ⟨rfl, rfl⟩ := hN
  refine lv_iconst (v := (0 : Int32)) hx hb dX8_hoursFor_42 (by decide) ?_
  refine lv_sipush (v := (9999 : Int32)) hx hb dX8_hoursFor_43 (by decide) ?_
  obtain ⟨tv_16, tM_14, c_15, hf⟩ := x_bE hf
  refine x_nI C hw hl.1 [.int v_13, .int (0 : Int32), .int (9999 : Int32)] [] (mX10_bounded l g c_15) lk_X8_199 (by decide) rfl (Nat.le_of_ble_eq_true rfl) ⟨Nat.zero_le _, Nat.zero_le _⟩ dX8_hoursFor_46 (fun v_16 M_14 H locs hN hw => ?_)
  obtain ⟨rfl, rfl⟩ := hN
  exact ret hf dX8_hoursFor_49 hw
noncomputable def fX8_joinedShare (M : xM) (a1 : Int32) : Option (Int32 × xM) := some (((a1 * (M 23 4)) / (100 : Int32)), M)
set_option maxRecDepth 100000 in
set_option maxHeartbeats 4000000 in
theorem mX8_joinedShare (l : Launch) (g : xG) {a1 : Int32} {r : Int32} {M' : xM}  {M : xM} (hf : fX8_joinedShare M a1 = some (r, M')) : x_cI l g 0 yX8_joinedShare cX8_joinedShare 2 .int 0 0 [.ref (g.2.2.1 1), .int a1] M (fun v N => v = r ∧ N = M') := by
  refine x_stI RX8 (by decide) rfl (Nat.le_of_ble_eq_true rfl) ?_
  intro p e s m args below meth c Q ls C hw ret hl
  obtain ⟨hx, hb, hml, hown, hB, -⟩ := id C
  have hl : lv_has ls 2 [(0, .ref (g.2.2.1 1)), (1, .int a1)] := hl
  unfold fX8_joinedShare at hf
  refine lv_iload_n hx hb dX8_joinedShare_0 rfl (lv_at hl 1 rfl) ?_
  refine lv_aload_n hx hb dX8_joinedShare_1 rfl (lv_at hl 0 rfl) ?_
  refine fg_X8_60 (k2 := 23) C hw ic0_1 rfl dX8_joinedShare_2 ?_
  refine lv_iconst (v := (4 : Int32)) hx hb dX8_joinedShare_5 (by decide) ?_
  refine x_ald (j := 4) C hw ic0_23 (x_inl rfl) rfl dX8_joinedShare_6 ?_
  refine lv_imul hx hb dX8_joinedShare_7 ?_
  refine lv_bipush (v := (100 : Int32)) hx hb dX8_joinedShare_8 (by decide) ?_
  refine lv_idiv hx hb dX8_joinedShare_10 (by decide) ?_
  exact ret hf dX8_joinedShare_11 hw
noncomputable def fX8_joinedDays_L7 (a1 : Int32) (k68_3 : xM → Int32 → Int32 → Option (Int32 × xM)) : Nat → xM → Int32 → Int32 → Int32 → Option (Int32 × xM)
  | 0, _, _, _, _ => none
  | n_13 + 1, M_12, x2_9, x3_10, x4_11 => if (M_12 1 3) ≤ x4_11 then (k68_3 M_12 x2_9 x3_10) else (x_g x4_11 30 (x_b (fX0_isOpenOf M_12 (139 + x4_11.toNatClampNeg) a1) fun v_20 M_18 => x_l (fun (M_24 : xM) (x2_21 : Int32) (x3_22 : Int32) => x_l (x4_11 + (1 : Int32)) fun x4_25 => fX8_joinedDays_L7 a1 k68_3 n_13 M_24 x2_21 x3_22 x4_25) fun k62_23 => if v_20 = 0 then (k62_23 M_18 x2_9 x3_10) else (x_g x4_11 30 (x_b (fX8_daysFor M_18 (139 + x4_11.toNatClampNeg)) fun v_30 M_28 => x_l (if x2_9 < v_30 then v_30 else x2_9) fun x2_31 => x_b (fX8_joinedShare M_28 v_30) fun v_34 M_32 => x_l (x3_10 + v_34) fun x3_35 => k62_23 M_32 x2_31 x3_35))))
noncomputable def fX8_joinedDays (M : xM) (a1 : Int32) : Option (Int32 × xM) := x_l (fun (M_4 : xM) (x2_1 : Int32) (x3_2 : Int32) => x_b (fX8_joinedShare M_4 x2_1) fun v_7 M_5 => some ((if (M_5 23 5) < ((x2_1 + x3_2) - v_7) then (M_5 23 5) else ((x2_1 + x3_2) - v_7)), M_5)) fun k68_3 => fX8_joinedDays_L7 a1 k68_3 x_FU M (0 : Int32) (0 : Int32) (0 : Int32)
set_option maxRecDepth 100000 in
set_option maxHeartbeats 4000000 in
theorem mX8_joinedDays (l : Launch) (g : xG) {a1 : Int32} {r : Int32} {M' : xM}  {M : xM} (hf : fX8_joinedDays M a1 = some (r, M')) : x_cI l g 0 yX8_joinedDays cX8_joinedDays 6 .int 4 89 [.ref (g.2.2.1 1), .int a1] M (fun v N => v = r ∧ N = M') := by
  refine x_stI RX8 (by decide) rfl (Nat.le_of_ble_eq_true rfl) ?_
  intro p e s m args below meth c Q ls C hw ret hl
  obtain ⟨hx, hb, hml, hown, hB, -⟩ := id C
  have hl : lv_has ls 6 [(0, .ref (g.2.2.1 1)), (1, .int a1)] := hl
  unfold fX8_joinedDays at hf
  refine lv_iconst (v := (0 : Int32)) hx hb dX8_joinedDays_0 (by decide) ?_
  refine lv_istore_n (lv' := [(2, .int (0 : Int32)), (0, .ref (g.2.2.1 1)), (1, .int a1)]) hx hb dX8_joinedDays_1 rfl hl (by decide) rfl (fun ls hl => ?_)
  refine lv_iconst (v := (0 : Int32)) hx hb dX8_joinedDays_2 (by decide) ?_
  refine lv_istore_n (lv' := [(3, .int (0 : Int32)), (2, .int (0 : Int32)), (0, .ref (g.2.2.1 1)), (1, .int a1)]) hx hb dX8_joinedDays_3 rfl hl (by decide) rfl (fun ls hl => ?_)
  refine lv_iconst (v := (0 : Int32)) hx hb dX8_joinedDays_4 (by decide) ?_
  refine lv_istore (lv' := [(4, .int (0 : Int32)), (3, .int (0 : Int32)), (2, .int (0 : Int32)), (0, .ref (g.2.2.1 1)), (1, .int a1)]) hx hb dX8_joinedDays_5 hl (by decide) rfl (fun ls hl => ?_)
  obtain ⟨k68_3, ek68_3, hf⟩ := x_jE hf
  have hk68_3 : ∀ (H : Heap) (locs : List Loc) (M_4 : xM) (x2_1 : Int32) (x3_2 : Int32) (ls : Array Slot) , lv_has ls 6 [(0, .ref (g.2.2.1 1)), (2, .int x2_1), (3, .int x3_2)] → x_w g 0 s H locs M_4 → k68_3 M_4 x2_1 x3_2 = some (r, M') → W p l e (x_rm 4 89) s m args below meth c H locs 0 0 Q (F0 m 68 ls []) := by
    intro H locs M_4 x2_1 x3_2 ls  hl hw hf
    rw [ek68_3] at hf
    refine lv_iload_n hx hb dX8_joinedDays_68 rfl (lv_at hl 1 rfl) ?_
    refine lv_iload_n hx hb dX8_joinedDays_69 rfl (lv_at hl 2 rfl) ?_
    refine lv_iadd hx hb dX8_joinedDays_70 ?_
    refine lv_aload_n hx hb dX8_joinedDays_71 rfl (lv_at hl 0 rfl) ?_
    refine lv_iload_n hx hb dX8_joinedDays_72 rfl (lv_at hl 1 rfl) ?_
    obtain ⟨tv_7, tM_5, c_6, hf⟩ := x_bE hf
    refine x_vI C hw hl.1 [.int x2_1] [.int (x2_1 + x3_2)] (mX8_joinedShare l g c_6) lk_X8_212 ic0_1 (by decide) rfl (by decide) rfl (Nat.le_of_ble_eq_true rfl) ⟨Nat.zero_le _, Nat.zero_le _⟩ dX8_joinedDays_73 (fun v_7 M_5 H locs hN hw => ?_)
    obtain ⟨rfl, rfl⟩ := hN
    refine lv_isub hx hb dX8_joinedDays_76 ?_
    refine lv_aload_n hx hb dX8_joinedDays_77 rfl (lv_at hl 0 rfl) ?_
    refine fg_X8_60 (k2 := 23) C hw ic0_1 rfl dX8_joinedDays_78 ?_
    refine lv_iconst (v := (5 : Int32)) hx hb dX8_joinedDays_81 (by decide) ?_
    refine x_ald (j := 5) C hw ic0_23 (x_inl rfl) rfl dX8_joinedDays_82 ?_
    refine mm_X8_215 C hl.1 (Nat.le_of_ble_eq_true rfl) (Nat.le_of_ble_eq_true rfl) ⟨Nat.zero_le _, Nat.zero_le _⟩ dX8_joinedDays_83 ?_
    exact ret hf dX8_joinedDays_86 hw
  have hL_36 : ∀ (n_13 : Nat) (H : Heap) (locs : List Loc) (M_12 : xM) (x2_9 : Int32) (x3_10 : Int32) (x4_11 : Int32) (ls : Array Slot) , lv_has ls 6 [(0, .ref (g.2.2.1 1)), (1, .int a1), (2, .int x2_9), (3, .int x3_10), (4, .int x4_11)] → x_w g 0 s H locs M_12 → fX8_joinedDays_L7 a1 k68_3 n_13 M_12 x2_9 x3_10 x4_11 = some (r, M') → W p l e (x_rm 4 89) s m args below meth c H locs 0 0 Q (F0 m 7 ls []) := by
    intro n_13
    induction n_13 with
    | zero =>
      intro H locs M_12 x2_9 x3_10 x4_11 ls  hl hw hf
      rw [fX8_joinedDays_L7] at hf
      cases hf
    | succ n_13 ih_14 =>
      intro H locs M_12 x2_9 x3_10 x4_11 ls  hl hw hf
      rw [fX8_joinedDays_L7] at hf
      refine lv_iload hx hb dX8_joinedDays_7 (lv_at hl 4 rfl) ?_
      refine lv_aload_n hx hb dX8_joinedDays_9 rfl (lv_at hl 0 rfl) ?_
      refine fg_X8_21 C hw ic0_1 dX8_joinedDays_10 ?_
      refine lv_icmp_ge (tgt := 68) hx hb dX8_joinedDays_13 (by decide) (fun q_15 => ?_) (fun q_15 => ?_)
      · have hf := x_iP hf q_15
        exact hk68_3 _ _ _ _ _ _ (lv_sub hl [0, 2, 3] rfl) hw hf
      · have hf := x_iN hf q_15
        refine lv_aload_n hx hb dX8_joinedDays_16 rfl (lv_at hl 0 rfl) ?_
        refine fg_X8_41 (k2 := 21) C hw ic0_1 rfl dX8_joinedDays_17 ?_
        refine lv_iload hx hb dX8_joinedDays_20 (lv_at hl 4 rfl) ?_
        obtain ⟨q_16, hf⟩ := x_gE hf
        refine x_rld (t := 2) (k2 := (139 + x4_11.toNatClampNeg)) C hw ic0_21 (by decide) rfl q_16 (rr0_21 _) dX8_joinedDays_22 ?_
        have h_17 : x_is 0 (139 + x4_11.toNatClampNeg) 0 := (rr0_21 x4_11.toNatClampNeg) ▸ x_ta ic0_21 (by decide) (x_ilt q_16)
        refine lv_iload_n hx hb dX8_joinedDays_23 rfl (lv_at hl 1 rfl) ?_
        obtain ⟨tv_20, tM_18, c_19, hf⟩ := x_bE hf
        refine x_vI C hw hl.1 [.int a1] [] (mX0_isOpenOf l g h_17 c_19) lk_X8_162 h_17 (by decide) rfl (by decide) rfl (Nat.le_of_ble_eq_true rfl) ⟨Nat.zero_le _, Nat.zero_le _⟩ dX8_joinedDays_24 (fun v_20 M_18 H locs hN hw => ?_)
        obtain ⟨rfl, rfl⟩ := hN
        obtain ⟨k62_23, ek62_23, hf⟩ := x_jE hf
        have hk62_23 : ∀ (H : Heap) (locs : List Loc) (M_24 : xM) (x2_21 : Int32) (x3_22 : Int32) (ls : Array Slot) , lv_has ls 6 [(0, .ref (g.2.2.1 1)), (1, .int a1), (4, .int x4_11), (2, .int x2_21), (3, .int x3_22)] → x_w g 0 s H locs M_24 → k62_23 M_24 x2_21 x3_22 = some (r, M') → W p l e (x_rm 4 89) s m args below meth c H locs 0 0 Q (F0 m 62 ls []) := by
          intro H locs M_24 x2_21 x3_22 ls  hl hw hf
          rw [ek62_23] at hf
          obtain ⟨x4_25, ex4_25⟩ : ∃ z : Int32, z = (x4_11 + (1 : Int32)) := ⟨_, rfl⟩
          have hf := x_lE ex4_25 hf
          refine lv_iinc (v := x4_25) (lv' := [(4, .int x4_25), (0, .ref (g.2.2.1 1)), (1, .int a1), (2, .int x2_21), (3, .int x3_22)]) hx hb dX8_joinedDays_62 hl (k := 2) rfl (by rw [ex4_25]; rfl) (by decide) rfl (fun ls hl => ?_)
          refine lv_goto (tgt := 7) hx hb dX8_joinedDays_65 (by decide) ?_
          exact ih_14 _ _ _ _ _ _ _ (lv_sub hl [1, 2, 3, 4, 0] rfl) hw hf
        refine lv_if_ne (tgt := 33) hx hb dX8_joinedDays_27 (by decide) (fun q_26 => ?_) (fun q_26 => ?_)
        · have hf := x_iN hf q_26
          refine lv_aload_n hx hb dX8_joinedDays_33 rfl (lv_at hl 0 rfl) ?_
          refine lv_aload_n hx hb dX8_joinedDays_34 rfl (lv_at hl 0 rfl) ?_
          refine fg_X8_41 (k2 := 21) C hw ic0_1 rfl dX8_joinedDays_35 ?_
          refine lv_iload hx hb dX8_joinedDays_38 (lv_at hl 4 rfl) ?_
          obtain ⟨q_27, hf⟩ := x_gE hf
          refine x_rld (t := 2) (k2 := (139 + x4_11.toNatClampNeg)) C hw ic0_21 (by decide) rfl q_27 (rr0_21 _) dX8_joinedDays_40 ?_
          obtain ⟨tv_30, tM_28, c_29, hf⟩ := x_bE hf
          refine x_vI C hw hl.1 [.ref (g.2.2.1 (139 + x4_11.toNatClampNeg))] [] (mX8_daysFor l g h_17 c_29) lk_X8_209 ic0_1 (by decide) rfl (by decide) rfl (Nat.le_of_ble_eq_true rfl) ⟨Nat.zero_le _, Nat.zero_le _⟩ dX8_joinedDays_41 (fun v_30 M_28 H locs hN hw => ?_)
          obtain ⟨rfl, rfl⟩ := hN
          refine lv_istore (lv' := [(5, .int v_30), (0, .ref (g.2.2.1 1)), (1, .int a1), (2, .int x2_9), (3, .int x3_10), (4, .int x4_11)]) hx hb dX8_joinedDays_44 hl (by decide) rfl (fun ls hl => ?_)
          refine lv_iload_n hx hb dX8_joinedDays_46 rfl (lv_at hl 3 rfl) ?_
          refine lv_iload hx hb dX8_joinedDays_47 (lv_at hl 0 rfl) ?_
          refine mm_X8_142 C hl.1 (Nat.le_of_ble_eq_true rfl) (Nat.le_of_ble_eq_true rfl) ⟨Nat.zero_le _, Nat.zero_le _⟩ dX8_joinedDays_49 ?_
          refine lv_topi (fun x2_31 ex2_31 => ?_)
          have hf := x_lE ex2_31 hf
          refine lv_istore_n (lv' := [(2, .int x2_31), (5, .int v_30), (0, .ref (g.2.2.1 1)), (1, .int a1), (3, .int x3_10), (4, .int x4_11)]) hx hb dX8_joinedDays_52 rfl hl (by decide) rfl (fun ls hl => ?_)
          refine lv_iload_n hx hb dX8_joinedDays_53 rfl (lv_at hl 4 rfl) ?_
          refine lv_aload_n hx hb dX8_joinedDays_54 rfl (lv_at hl 2 rfl) ?_
          refine lv_iload hx hb dX8_joinedDays_55 (lv_at hl 1 rfl) ?_
          obtain ⟨tv_34, tM_32, c_33, hf⟩ := x_bE hf
          refine x_vI C hw hl.1 [.int v_30] [.int x3_10] (mX8_joinedShare l g c_33) lk_X8_212 ic0_1 (by decide) rfl (by decide) rfl (Nat.le_of_ble_eq_true rfl) ⟨Nat.zero_le _, Nat.zero_le _⟩ dX8_joinedDays_57 (fun v_34 M_32 H locs hN hw => ?_)
          obtain ⟨rfl, rfl⟩ := hN
          refine lv_iadd hx hb dX8_joinedDays_60 ?_
          refine lv_topi (fun x3_35 ex3_35 => ?_)
          have hf := x_lE ex3_35 hf
          refine lv_istore_n (lv' := [(3, .int x3_35), (2, .int x2_31), (5, .int v_30), (0, .ref (g.2.2.1 1)), (1, .int a1), (4, .int x4_11)]) hx hb dX8_joinedDays_61 rfl hl (by decide) rfl (fun ls hl => ?_)
          exact hk62_23 _ _ _ _ _ _ (lv_sub hl [3, 4, 5, 1, 0] rfl) hw hf
        · have hf := x_iP hf q_26
          refine lv_goto (tgt := 62) hx hb dX8_joinedDays_30 (by decide) ?_
          exact hk62_23 _ _ _ _ _ _ (lv_sub hl [0, 1, 4, 2, 3] rfl) hw hf
  exact hL_36 _ _ _ _ _ _ _ _ (lv_sub hl [3, 4, 2, 1, 0] rfl) hw hf
noncomputable def fX8_deedsIn_L4 (a1 : Int32) : Nat → xM → Int32 → Int32 → Option (Int32 × xM)
  | 0, _, _, _ => none
  | n_4 + 1, M_3, x2_1, x3_2 => if (M_3 1 3) ≤ x3_2 then (some (x2_1, M_3)) else (x_g x3_2 30 (x_l (fun (M_11 : xM) (z_9 : Int32) => x_b (fX10_oneIf M_11 z_9) fun v_14 M_12 => x_l (x2_1 + v_14) fun x2_15 => x_l (x3_2 + (1 : Int32)) fun x3_16 => fX8_deedsIn_L4 a1 n_4 M_12 x2_15 x3_16) fun k31_10 => if (M_3 (139 + x3_2.toNatClampNeg) 4) = a1 then (k31_10 M_3 (1 : Int32)) else (k31_10 M_3 (0 : Int32))))
noncomputable def fX8_deedsIn (M : xM) (a1 : Int32) : Option (Int32 × xM) := fX8_deedsIn_L4 a1 x_FU M (0 : Int32) (0 : Int32)
set_option maxRecDepth 100000 in
set_option maxHeartbeats 4000000 in
theorem mX8_deedsIn (l : Launch) (g : xG) {a1 : Int32} {r : Int32} {M' : xM}  {M : xM} (hf : fX8_deedsIn M a1 = some (r, M')) : x_cI l g 0 yX8_deedsIn cX8_deedsIn 4 .int 1 20 [.ref (g.2.2.1 1), .int a1] M (fun v N => v = r ∧ N = M') := by
  refine x_stI RX8 (by decide) rfl (Nat.le_of_ble_eq_true rfl) ?_
  intro p e s m args below meth c Q ls C hw ret hl
  obtain ⟨hx, hb, hml, hown, hB, -⟩ := id C
  have hl : lv_has ls 4 [(0, .ref (g.2.2.1 1)), (1, .int a1)] := hl
  unfold fX8_deedsIn at hf
  refine lv_iconst (v := (0 : Int32)) hx hb dX8_deedsIn_0 (by decide) ?_
  refine lv_istore_n (lv' := [(2, .int (0 : Int32)), (0, .ref (g.2.2.1 1)), (1, .int a1)]) hx hb dX8_deedsIn_1 rfl hl (by decide) rfl (fun ls hl => ?_)
  refine lv_iconst (v := (0 : Int32)) hx hb dX8_deedsIn_2 (by decide) ?_
  refine lv_istore_n (lv' := [(3, .int (0 : Int32)), (2, .int (0 : Int32)), (0, .ref (g.2.2.1 1)), (1, .int a1)]) hx hb dX8_deedsIn_3 rfl hl (by decide) rfl (fun ls hl => ?_)
  have hL_18 : ∀ (n_4 : Nat) (H : Heap) (locs : List Loc) (M_3 : xM) (x2_1 : Int32) (x3_2 : Int32) (ls : Array Slot) , lv_has ls 4 [(0, .ref (g.2.2.1 1)), (1, .int a1), (2, .int x2_1), (3, .int x3_2)] → x_w g 0 s H locs M_3 → fX8_deedsIn_L4 a1 n_4 M_3 x2_1 x3_2 = some (r, M') → W p l e (x_rm 1 20) s m args below meth c H locs 0 0 Q (F0 m 4 ls []) := by
    intro n_4
    induction n_4 with
    | zero =>
      intro H locs M_3 x2_1 x3_2 ls  hl hw hf
      rw [fX8_deedsIn_L4] at hf
      cases hf
    | succ n_4 ih_5 =>
      intro H locs M_3 x2_1 x3_2 ls  hl hw hf
      rw [fX8_deedsIn_L4] at hf
      refine lv_iload_n hx hb dX8_deedsIn_4 rfl (lv_at hl 3 rfl) ?_
      refine lv_aload_n hx hb dX8_deedsIn_5 rfl (lv_at hl 0 rfl) ?_
      refine fg_X8_21 C hw ic0_1 dX8_deedsIn_6 ?_
      refine lv_icmp_ge (tgt := 42) hx hb dX8_deedsIn_9 (by decide) (fun q_6 => ?_) (fun q_6 => ?_)
      · have hf := x_iP hf q_6
        refine lv_iload_n hx hb dX8_deedsIn_42 rfl (lv_at hl 2 rfl) ?_
        exact ret hf dX8_deedsIn_43 hw
      · have hf := x_iN hf q_6
        refine lv_iload_n hx hb dX8_deedsIn_12 rfl (lv_at hl 2 rfl) ?_
        refine lv_aload_n hx hb dX8_deedsIn_13 rfl (lv_at hl 0 rfl) ?_
        refine fg_X8_41 (k2 := 21) C hw ic0_1 rfl dX8_deedsIn_14 ?_
        refine lv_iload_n hx hb dX8_deedsIn_17 rfl (lv_at hl 3 rfl) ?_
        obtain ⟨q_7, hf⟩ := x_gE hf
        refine x_rld (t := 2) (k2 := (139 + x3_2.toNatClampNeg)) C hw ic0_21 (by decide) rfl q_7 (rr0_21 _) dX8_deedsIn_18 ?_
        have h_8 : x_is 0 (139 + x3_2.toNatClampNeg) 0 := (rr0_21 x3_2.toNatClampNeg) ▸ x_ta ic0_21 (by decide) (x_ilt q_7)
        refine fg_X8_165 C hw h_8 dX8_deedsIn_19 ?_
        refine lv_iload_n hx hb dX8_deedsIn_22 rfl (lv_at hl 1 rfl) ?_
        obtain ⟨k31_10, ek31_10, hf⟩ := x_jE hf
        have hk31_10 : ∀ (H : Heap) (locs : List Loc) (M_11 : xM) (z_9 : Int32) (ls : Array Slot) , lv_has ls 4 [(0, .ref (g.2.2.1 1)), (1, .int a1), (3, .int x3_2)] → x_w g 0 s H locs M_11 → k31_10 M_11 z_9 = some (r, M') → W p l e (x_rm 1 20) s m args below meth c H locs 0 0 Q (F0 m 31 ls [.int z_9, .int x2_1]) := by
          intro H locs M_11 z_9 ls  hl hw hf
          rw [ek31_10] at hf
          obtain ⟨tv_14, tM_12, c_13, hf⟩ := x_bE hf
          refine x_nI C hw hl.1 [.int z_9] [.int x2_1] (mX10_oneIf l g c_13) lk_X8_152 (by decide) rfl (Nat.le_of_ble_eq_true rfl) ⟨Nat.zero_le _, Nat.zero_le _⟩ dX8_deedsIn_31 (fun v_14 M_12 H locs hN hw => ?_)
          obtain ⟨rfl, rfl⟩ := hN
          refine lv_iadd hx hb dX8_deedsIn_34 ?_
          refine lv_topi (fun x2_15 ex2_15 => ?_)
          have hf := x_lE ex2_15 hf
          refine lv_istore_n (lv' := [(2, .int x2_15), (0, .ref (g.2.2.1 1)), (1, .int a1), (3, .int x3_2)]) hx hb dX8_deedsIn_35 rfl hl (by decide) rfl (fun ls hl => ?_)
          obtain ⟨x3_16, ex3_16⟩ : ∃ z : Int32, z = (x3_2 + (1 : Int32)) := ⟨_, rfl⟩
          have hf := x_lE ex3_16 hf
          refine lv_iinc (v := x3_16) (lv' := [(3, .int x3_16), (2, .int x2_15), (0, .ref (g.2.2.1 1)), (1, .int a1)]) hx hb dX8_deedsIn_36 hl (k := 3) rfl (by rw [ex3_16]; rfl) (by decide) rfl (fun ls hl => ?_)
          refine lv_goto (tgt := 4) hx hb dX8_deedsIn_39 (by decide) ?_
          exact ih_5 _ _ _ _ _ _ (lv_sub hl [2, 3, 1, 0] rfl) hw hf
        refine lv_icmp_ne (tgt := 30) hx hb dX8_deedsIn_23 (by decide) (fun q_17 => ?_) (fun q_17 => ?_)
        · have hf := x_iN hf q_17
          refine lv_iconst (v := (0 : Int32)) hx hb dX8_deedsIn_30 (by decide) ?_
          exact hk31_10 _ _ _ _ _ (lv_sub hl [0, 1, 3] rfl) hw hf
        · have hf := x_iP hf q_17
          refine lv_iconst (v := (1 : Int32)) hx hb dX8_deedsIn_26 (by decide) ?_
          refine lv_goto (tgt := 31) hx hb dX8_deedsIn_27 (by decide) ?_
          exact hk31_10 _ _ _ _ _ (lv_sub hl [0, 1, 3] rfl) hw hf
  exact hL_18 _ _ _ _ _ _ _ (lv_sub hl [2, 3, 1, 0] rfl) hw hf
noncomputable def fX8_flatOf_L4 (a1 : Int32) : Nat → xM → Int32 → Int32 → Option (Int32 × xM)
  | 0, _, _, _ => none
  | n_4 + 1, M_3, x2_1, x3_2 => if (M_3 1 3) ≤ x3_2 then (some (x2_1, M_3)) else (x_g x3_2 30 (x_l (fun (M_11 : xM) (x2_9 : Int32) => x_l (x3_2 + (1 : Int32)) fun x3_12 => fX8_flatOf_L4 a1 n_4 M_11 x2_9 x3_12) fun k42_10 => if (M_3 (139 + x3_2.toNatClampNeg) 4) = a1 then (x_g x3_2 30 (x_g (M_3 (139 + x3_2.toNatClampNeg) 0) 4 (x_l (x2_1 + (M_3 24 (M_3 (139 + x3_2.toNatClampNeg) 0).toNatClampNeg)) fun x2_16 => k42_10 M_3 x2_16))) else (k42_10 M_3 x2_1)))
noncomputable def fX8_flatOf (M : xM) (a1 : Int32) : Option (Int32 × xM) := fX8_flatOf_L4 a1 x_FU M (0 : Int32) (0 : Int32)
set_option maxRecDepth 100000 in
set_option maxHeartbeats 4000000 in
theorem mX8_flatOf (l : Launch) (g : xG) {a1 : Int32} {r : Int32} {M' : xM}  {M : xM} (hf : fX8_flatOf M a1 = some (r, M')) : x_cI l g 0 yX8_flatOf cX8_flatOf 4 .int 0 0 [.ref (g.2.2.1 1), .int a1] M (fun v N => v = r ∧ N = M') := by
  refine x_stI RX8 (by decide) rfl (Nat.le_of_ble_eq_true rfl) ?_
  intro p e s m args below meth c Q ls C hw ret hl
  obtain ⟨hx, hb, hml, hown, hB, -⟩ := id C
  have hl : lv_has ls 4 [(0, .ref (g.2.2.1 1)), (1, .int a1)] := hl
  unfold fX8_flatOf at hf
  refine lv_iconst (v := (0 : Int32)) hx hb dX8_flatOf_0 (by decide) ?_
  refine lv_istore_n (lv' := [(2, .int (0 : Int32)), (0, .ref (g.2.2.1 1)), (1, .int a1)]) hx hb dX8_flatOf_1 rfl hl (by decide) rfl (fun ls hl => ?_)
  refine lv_iconst (v := (0 : Int32)) hx hb dX8_flatOf_2 (by decide) ?_
  refine lv_istore_n (lv' := [(3, .int (0 : Int32)), (2, .int (0 : Int32)), (0, .ref (g.2.2.1 1)), (1, .int a1)]) hx hb dX8_flatOf_3 rfl hl (by decide) rfl (fun ls hl => ?_)
  have hL_17 : ∀ (n_4 : Nat) (H : Heap) (locs : List Loc) (M_3 : xM) (x2_1 : Int32) (x3_2 : Int32) (ls : Array Slot) , lv_has ls 4 [(0, .ref (g.2.2.1 1)), (1, .int a1), (2, .int x2_1), (3, .int x3_2)] → x_w g 0 s H locs M_3 → fX8_flatOf_L4 a1 n_4 M_3 x2_1 x3_2 = some (r, M') → W p l e (x_rm 0 0) s m args below meth c H locs 0 0 Q (F0 m 4 ls []) := by
    intro n_4
    induction n_4 with
    | zero =>
      intro H locs M_3 x2_1 x3_2 ls  hl hw hf
      rw [fX8_flatOf_L4] at hf
      cases hf
    | succ n_4 ih_5 =>
      intro H locs M_3 x2_1 x3_2 ls  hl hw hf
      rw [fX8_flatOf_L4] at hf
      refine lv_iload_n hx hb dX8_flatOf_4 rfl (lv_at hl 3 rfl) ?_
      refine lv_aload_n hx hb dX8_flatOf_5 rfl (lv_at hl 0 rfl) ?_
      refine fg_X8_21 C hw ic0_1 dX8_flatOf_6 ?_
      refine lv_icmp_ge (tgt := 48) hx hb dX8_flatOf_9 (by decide) (fun q_6 => ?_) (fun q_6 => ?_)
      · have hf := x_iP hf q_6
        refine lv_iload_n hx hb dX8_flatOf_48 rfl (lv_at hl 2 rfl) ?_
        exact ret hf dX8_flatOf_49 hw
      · have hf := x_iN hf q_6
        refine lv_aload_n hx hb dX8_flatOf_12 rfl (lv_at hl 0 rfl) ?_
        refine fg_X8_41 (k2 := 21) C hw ic0_1 rfl dX8_flatOf_13 ?_
        refine lv_iload_n hx hb dX8_flatOf_16 rfl (lv_at hl 3 rfl) ?_
        obtain ⟨q_7, hf⟩ := x_gE hf
        refine x_rld (t := 2) (k2 := (139 + x3_2.toNatClampNeg)) C hw ic0_21 (by decide) rfl q_7 (rr0_21 _) dX8_flatOf_17 ?_
        have h_8 : x_is 0 (139 + x3_2.toNatClampNeg) 0 := (rr0_21 x3_2.toNatClampNeg) ▸ x_ta ic0_21 (by decide) (x_ilt q_7)
        refine fg_X8_165 C hw h_8 dX8_flatOf_18 ?_
        refine lv_iload_n hx hb dX8_flatOf_21 rfl (lv_at hl 1 rfl) ?_
        obtain ⟨k42_10, ek42_10, hf⟩ := x_jE hf
        have hk42_10 : ∀ (H : Heap) (locs : List Loc) (M_11 : xM) (x2_9 : Int32) (ls : Array Slot) , lv_has ls 4 [(0, .ref (g.2.2.1 1)), (1, .int a1), (3, .int x3_2), (2, .int x2_9)] → x_w g 0 s H locs M_11 → k42_10 M_11 x2_9 = some (r, M') → W p l e (x_rm 0 0) s m args below meth c H locs 0 0 Q (F0 m 42 ls []) := by
          intro H locs M_11 x2_9 ls  hl hw hf
          rw [ek42_10] at hf
          obtain ⟨x3_12, ex3_12⟩ : ∃ z : Int32, z = (x3_2 + (1 : Int32)) := ⟨_, rfl⟩
          have hf := x_lE ex3_12 hf
          refine lv_iinc (v := x3_12) (lv' := [(3, .int x3_12), (0, .ref (g.2.2.1 1)), (1, .int a1), (2, .int x2_9)]) hx hb dX8_flatOf_42 hl (k := 2) rfl (by rw [ex3_12]; rfl) (by decide) rfl (fun ls hl => ?_)
          refine lv_goto (tgt := 4) hx hb dX8_flatOf_45 (by decide) ?_
          exact ih_5 _ _ _ _ _ _ (lv_sub hl [1, 2, 3, 0] rfl) hw hf
        refine lv_icmp_ne (tgt := 42) hx hb dX8_flatOf_22 (by decide) (fun q_13 => ?_) (fun q_13 => ?_)
        · have hf := x_iN hf q_13
          exact hk42_10 _ _ _ _ _ (lv_sub hl [0, 1, 3, 2] rfl) hw hf
        · have hf := x_iP hf q_13
          refine lv_iload_n hx hb dX8_flatOf_25 rfl (lv_at hl 2 rfl) ?_
          refine lv_aload_n hx hb dX8_flatOf_26 rfl (lv_at hl 0 rfl) ?_
          refine fg_X8_63 (k2 := 24) C hw ic0_1 rfl dX8_flatOf_27 ?_
          refine lv_aload_n hx hb dX8_flatOf_30 rfl (lv_at hl 0 rfl) ?_
          refine fg_X8_41 (k2 := 21) C hw ic0_1 rfl dX8_flatOf_31 ?_
          refine lv_iload_n hx hb dX8_flatOf_34 rfl (lv_at hl 3 rfl) ?_
          obtain ⟨q_14, hf⟩ := x_gE hf
          refine x_rld (t := 2) (k2 := (139 + x3_2.toNatClampNeg)) C hw ic0_21 (by decide) rfl q_14 (rr0_21 _) dX8_flatOf_35 ?_
          refine fg_X8_188 C hw h_8 dX8_flatOf_36 ?_
          obtain ⟨q_15, hf⟩ := x_gE hf
          refine x_ald C hw ic0_24 q_15 rfl dX8_flatOf_39 ?_
          refine lv_iadd hx hb dX8_flatOf_40 ?_
          refine lv_topi (fun x2_16 ex2_16 => ?_)
          have hf := x_lE ex2_16 hf
          refine lv_istore_n (lv' := [(2, .int x2_16), (0, .ref (g.2.2.1 1)), (1, .int a1), (3, .int x3_2)]) hx hb dX8_flatOf_41 rfl hl (by decide) rfl (fun ls hl => ?_)
          exact hk42_10 _ _ _ _ _ (lv_sub hl [1, 2, 3, 0] rfl) hw hf
  exact hL_17 _ _ _ _ _ _ _ (lv_sub hl [2, 3, 1, 0] rfl) hw hf
