noncomputable def fX10_slip_L41 (a2 : Int32) (k118_12 : xM → Int64 → Option (Int32 × xM)) (k87_23 : xM → Int32 → Option (Int32 × xM)) : Nat → xM → Int64 → Int32 → Option (Int32 × xM)
  | 0, _, _, _ => none
  | n_28 + 1, M_27, x3_25, x5_26 => x_g a2 2 (if (M_27 8 a2.toNatClampNeg) ≤ x5_26 then (k118_12 M_27 x3_25) else (x_g a2 2 (x_g x5_26 (xn 0 (9 + a2.toNatClampNeg)) (x_l (M_27 (9 + a2.toNatClampNeg) x5_26.toNatClampNeg) fun x6_35 => x_l (fun (M_39 : xM) (z_37 : Int32) => x_l (fun (M_41 : xM) => x_l (fun (M_44 : xM) (x3_42 : Int64) => x_l (x5_26 + (1 : Int32)) fun x5_45 => fX10_slip_L41 a2 k118_12 k87_23 n_28 M_44 x3_42 x5_45) fun k112_43 => if z_37 = 0 then (k112_43 M_41 x3_25) else (x_l (x3_25 + (x6_35.toInt64)) fun x3_47 => k112_43 M_41 x3_47)) fun k101_40 => if z_37 = 0 then (if (lg_cmp (x6_35.toInt64) x3_25) = 0 then (k101_40 M_39) else (some (x5_26, M_39))) else (if 0 ≤ x6_35 then (k101_40 M_39) else (k87_23 M_39 x5_26))) fun k75_38 => if (x5_26 - x5_26 / (2 : Int32) * (2 : Int32)) = 0 then (k75_38 M_27 (1 : Int32)) else (k75_38 M_27 (0 : Int32))))))
noncomputable def fX10_slip (M : xM) (a1 : Int32) (a2 : Int32) : Option (Int32 × xM) := x_b (fX8_hasPerson M a1) fun v_3 M_1 => if v_3 = 0 then (some ((-1000000001 : Int32), M_1)) else (x_b (fX10_isWithin M_1 a2 (0 : Int32) (1 : Int32)) fun v_7 M_5 => if v_7 = 0 then (some ((-1000000001 : Int32), M_5)) else (x_g a2 2 (if (M_5 7 a2.toNatClampNeg) = 0 then (x_l (fun (M_13 : xM) (x3_11 : Int64) => x_g a2 2 (if (24 : Int32) ≤ (M_13 8 a2.toNatClampNeg) then (x_b (fX8_valueOf M_13 a1 (0 : Int32) (M_13 1 0) (M_13 1 0)) fun v_18 M_16 => x_l (if 0 < (x3_11 - ((12 : Int64) * (v_18.toInt64))) then (x3_11 - ((12 : Int64) * (v_18.toInt64))) else -(x3_11 - ((12 : Int64) * (v_18.toInt64)))) fun x5_19 => if (lg_cmp x5_19 ((M_16 23 15).toInt64)) ≤ 0 then (some ((-1000000005 : Int32), M_16)) else (some ((23 : Int32), M_16))) else (some ((-1000000005 : Int32), M_13)))) fun k118_12 => x_l (fun (M_24 : xM) (x5_22 : Int32) => some (x5_22, M_24)) fun k87_23 => fX10_slip_L41 a2 k118_12 k87_23 x_FU M_5 (0 : Int64) (0 : Int32)) else (some ((-1000000011 : Int32), M_5)))))
set_option maxRecDepth 100000 in
set_option maxHeartbeats 4000000 in
theorem mX10_slip (l : Launch) (g : xG) {a1 : Int32} {a2 : Int32} {r : Int32} {M' : xM}  {M : xM} (hf : fX10_slip M a1 a2 = some (r, M')) : x_cI l g 0 yX10_slip cX10_slip 8 .int 2 50 [.ref (g.2.2.1 0), .int a1, .int a2] M (fun v N => v = r ∧ N = M') := by
  refine x_stI RX10 (by decide) rfl (Nat.le_of_ble_eq_true rfl) ?_
  intro p e s m args below meth c Q ls C hw ret hl
  obtain ⟨hx, hb, hml, hown, hB, -⟩ := id C
  have hl : lv_has ls 8 [(0, .ref (g.2.2.1 0)), (1, .int a1), (2, .int a2)] := hl
  unfold fX10_slip at hf
  refine lv_aload_n hx hb dX10_slip_0 rfl (lv_at hl 0 rfl) ?_
  refine fg_X10_10 (k2 := 1) C hw ic0_0 rfl dX10_slip_1 ?_
  refine lv_iload_n hx hb dX10_slip_4 rfl (lv_at hl 1 rfl) ?_
  obtain ⟨tv_3, tM_1, c_2, hf⟩ := x_bE hf
  refine x_vI C hw hl.1 [.int a1] [] (mX8_hasPerson l g c_2) lk_X10_76 ic0_1 (by decide) rfl (by decide) rfl (Nat.le_of_ble_eq_true rfl) ⟨Nat.zero_le _, Nat.zero_le _⟩ dX10_slip_5 (fun v_3 M_1 H locs hN hw => ?_)
  obtain ⟨rfl, rfl⟩ := hN
  refine lv_if_eq (tgt := 20) hx hb dX10_slip_8 (by decide) (fun q_4 => ?_) (fun q_4 => ?_)
  · have hf := x_iP hf q_4
    refine lv_ldc hx hb hown (hB _ mk_X10_61) dX10_slip_20 ?_
    exact ret hf dX10_slip_22 hw
  · have hf := x_iN hf q_4
    refine lv_iload_n hx hb dX10_slip_11 rfl (lv_at hl 2 rfl) ?_
    refine lv_iconst (v := (0 : Int32)) hx hb dX10_slip_12 (by decide) ?_
    refine lv_iconst (v := (1 : Int32)) hx hb dX10_slip_13 (by decide) ?_
    obtain ⟨tv_7, tM_5, c_6, hf⟩ := x_bE hf
    refine x_sI C hw hl.1 [.int a2, .int (0 : Int32), .int (1 : Int32)] [] (mX10_isWithin l g c_6) lk_X10_57 (by decide) rfl (Nat.le_of_ble_eq_true rfl) ⟨Nat.zero_le _, Nat.zero_le _⟩ dX10_slip_14 (fun v_7 M_5 H locs hN hw => ?_)
    obtain ⟨rfl, rfl⟩ := hN
    refine lv_if_ne (tgt := 23) hx hb dX10_slip_17 (by decide) (fun q_8 => ?_) (fun q_8 => ?_)
    · have hf := x_iN hf q_8
      refine lv_aload_n hx hb dX10_slip_23 rfl (lv_at hl 0 rfl) ?_
      refine fg_X10_50 (k2 := 7) C hw ic0_0 rfl dX10_slip_24 ?_
      refine lv_iload_n hx hb dX10_slip_27 rfl (lv_at hl 2 rfl) ?_
      obtain ⟨q_9, hf⟩ := x_gE hf
      refine x_zld C hw ic0_7 q_9 rfl dX10_slip_28 ?_
      refine lv_if_eq (tgt := 36) hx hb dX10_slip_29 (by decide) (fun q_10 => ?_) (fun q_10 => ?_)
      · have hf := x_iP hf q_10
        refine lv_lconst (v := 0) hx hb dX10_slip_36 (by decide) ?_
        refine lv_lstore_n (lv' := [(3, .long (0 : Int64)), (0, .ref (g.2.2.1 0)), (1, .int a1), (2, .int a2)]) hx hb dX10_slip_37 rfl hl (by decide) rfl (fun ls hl => ?_)
        refine lv_iconst (v := (0 : Int32)) hx hb dX10_slip_38 (by decide) ?_
        refine lv_istore (lv' := [(5, .int (0 : Int32)), (3, .long (0 : Int64)), (0, .ref (g.2.2.1 0)), (1, .int a1), (2, .int a2)]) hx hb dX10_slip_39 hl (by decide) rfl (fun ls hl => ?_)
        obtain ⟨k118_12, ek118_12, hf⟩ := x_jE hf
        have hk118_12 : ∀ (H : Heap) (locs : List Loc) (M_13 : xM) (x3_11 : Int64) (ls : Array Slot) , lv_has ls 8 [(0, .ref (g.2.2.1 0)), (1, .int a1), (2, .int a2), (3, .long x3_11)] → x_w g 0 s H locs M_13 → k118_12 M_13 x3_11 = some (r, M') → W p l e (x_rm 2 50) s m args below meth c H locs 0 0 Q (F0 m 118 ls []) := by
          intro H locs M_13 x3_11 ls  hl hw hf
          rw [ek118_12] at hf
          refine lv_aload_n hx hb dX10_slip_118 rfl (lv_at hl 0 rfl) ?_
          refine fg_X10_54 (k2 := 8) C hw ic0_0 rfl dX10_slip_119 ?_
          refine lv_iload_n hx hb dX10_slip_122 rfl (lv_at hl 2 rfl) ?_
          obtain ⟨q_14, hf⟩ := x_gE hf
          refine x_ald C hw ic0_8 q_14 rfl dX10_slip_123 ?_
          refine lv_bipush (v := (24 : Int32)) hx hb dX10_slip_124 (by decide) ?_
          refine lv_icmp_ge (tgt := 132) hx hb dX10_slip_126 (by decide) (fun q_15 => ?_) (fun q_15 => ?_)
          · have hf := x_iP hf q_15
            refine lv_lload_n hx hb dX10_slip_132 rfl (lv_at hl 3 rfl) ?_
            refine lv_ldc2 hx hb hown (hB _ mkl_X10_330) dX10_slip_133 ?_
            refine lv_aload_n hx hb dX10_slip_136 rfl (lv_at hl 0 rfl) ?_
            refine fg_X10_10 (k2 := 1) C hw ic0_0 rfl dX10_slip_137 ?_
            refine lv_iload_n hx hb dX10_slip_140 rfl (lv_at hl 1 rfl) ?_
            refine lv_iconst (v := (0 : Int32)) hx hb dX10_slip_141 (by decide) ?_
            refine lv_aload_n hx hb dX10_slip_142 rfl (lv_at hl 0 rfl) ?_
            refine fg_X10_10 (k2 := 1) C hw ic0_0 rfl dX10_slip_143 ?_
            refine fg_X10_108 C hw ic0_1 dX10_slip_146 ?_
            refine lv_aload_n hx hb dX10_slip_149 rfl (lv_at hl 0 rfl) ?_
            refine fg_X10_10 (k2 := 1) C hw ic0_0 rfl dX10_slip_150 ?_
            refine fg_X10_108 C hw ic0_1 dX10_slip_153 ?_
            obtain ⟨tv_18, tM_16, c_17, hf⟩ := x_bE hf
            refine x_vI C hw hl.1 [.int a1, .int (0 : Int32), .int (M_13 1 0), .int (M_13 1 0)] [.long (12 : Int64), .long x3_11] (mX8_valueOf l g c_17) lk_X10_118 ic0_1 (by decide) rfl (by decide) rfl (Nat.le_of_ble_eq_true rfl) ⟨Nat.zero_le _, Nat.zero_le _⟩ dX10_slip_156 (fun v_18 M_16 H locs hN hw => ?_)
            obtain ⟨rfl, rfl⟩ := hN
            refine lv_i2l hx hb dX10_slip_159 rfl ?_
            refine lv_lmul hx hb dX10_slip_160 ?_
            refine lv_lsub hx hb dX10_slip_161 ?_
            refine mm_X10_332 C hl.1 (Nat.le_of_ble_eq_true rfl) (Nat.le_of_ble_eq_true rfl) ⟨Nat.zero_le _, Nat.zero_le _⟩ dX10_slip_162 ?_
            refine lv_topl (fun x5_19 ex5_19 => ?_)
            have hf := x_lE ex5_19 hf
            refine lv_lstore (lv' := [(5, .long x5_19), (0, .ref (g.2.2.1 0)), (1, .int a1), (2, .int a2), (3, .long x3_11)]) hx hb dX10_slip_165 hl (by decide) rfl (fun ls hl => ?_)
            refine lv_lload hx hb dX10_slip_167 (lv_at hl 0 rfl) ?_
            refine lv_aload_n hx hb dX10_slip_169 rfl (lv_at hl 1 rfl) ?_
            refine fg_X10_10 (k2 := 1) C hw ic0_0 rfl dX10_slip_170 ?_
            refine fg_X10_128 (k2 := 23) C hw ic0_1 rfl dX10_slip_173 ?_
            refine lv_bipush (v := (15 : Int32)) hx hb dX10_slip_176 (by decide) ?_
            refine x_ald (j := 15) C hw ic0_23 (x_inl rfl) rfl dX10_slip_178 ?_
            refine lv_i2l hx hb dX10_slip_179 rfl ?_
            refine W.lcmp hx hb dX10_slip_180 ?_
            refine lv_if_le (tgt := 189) hx hb dX10_slip_181 (by decide) (fun q_21 => ?_) (fun q_21 => ?_)
            · have hf := x_iP hf q_21
              refine lv_ldc hx hb hown (hB _ mk_X10_169) dX10_slip_189 ?_
              exact ret hf dX10_slip_191 hw
            · have hf := x_iN hf q_21
              refine lv_bipush (v := (23 : Int32)) hx hb dX10_slip_184 (by decide) ?_
              refine lv_goto (tgt := 191) hx hb dX10_slip_186 (by decide) ?_
              exact ret hf dX10_slip_191 hw
          · have hf := x_iN hf q_15
            refine lv_ldc hx hb hown (hB _ mk_X10_169) dX10_slip_129 ?_
            exact ret hf dX10_slip_131 hw
        obtain ⟨k87_23, ek87_23, hf⟩ := x_jE hf
        have hk87_23 : ∀ (H : Heap) (locs : List Loc) (M_24 : xM) (x5_22 : Int32) (ls : Array Slot) , lv_has ls 8 [(5, .int x5_22)] → x_w g 0 s H locs M_24 → k87_23 M_24 x5_22 = some (r, M') → W p l e (x_rm 2 50) s m args below meth c H locs 0 0 Q (F0 m 87 ls []) := by
          intro H locs M_24 x5_22 ls  hl hw hf
          rw [ek87_23] at hf
          refine lv_goto (tgt := 98) hx hb dX10_slip_87 (by decide) ?_
          refine lv_iload hx hb dX10_slip_98 (lv_at hl 0 rfl) ?_
          exact ret hf dX10_slip_100 hw
        have hL_52 : ∀ (n_28 : Nat) (H : Heap) (locs : List Loc) (M_27 : xM) (x3_25 : Int64) (x5_26 : Int32) (ls : Array Slot) , lv_has ls 8 [(0, .ref (g.2.2.1 0)), (1, .int a1), (2, .int a2), (3, .long x3_25), (5, .int x5_26)] → x_w g 0 s H locs M_27 → fX10_slip_L41 a2 k118_12 k87_23 n_28 M_27 x3_25 x5_26 = some (r, M') → W p l e (x_rm 2 50) s m args below meth c H locs 0 0 Q (F0 m 41 ls []) := by
          intro n_28
          induction n_28 with
          | zero =>
            intro H locs M_27 x3_25 x5_26 ls  hl hw hf
            rw [fX10_slip_L41] at hf
            cases hf
          | succ n_28 ih_29 =>
            intro H locs M_27 x3_25 x5_26 ls  hl hw hf
            rw [fX10_slip_L41] at hf
            refine lv_iload hx hb dX10_slip_41 (lv_at hl 4 rfl) ?_
            refine lv_aload_n hx hb dX10_slip_43 rfl (lv_at hl 0 rfl) ?_
            refine fg_X10_54 (k2 := 8) C hw ic0_0 rfl dX10_slip_44 ?_
            refine lv_iload_n hx hb dX10_slip_47 rfl (lv_at hl 2 rfl) ?_
            obtain ⟨q_30, hf⟩ := x_gE hf
            refine x_ald C hw ic0_8 q_30 rfl dX10_slip_48 ?_
            refine lv_icmp_ge (tgt := 118) hx hb dX10_slip_49 (by decide) (fun q_31 => ?_) (fun q_31 => ?_)
            · have hf := x_iP hf q_31
              exact hk118_12 _ _ _ _ _ (lv_sub hl [0, 1, 2, 3] rfl) hw hf
            · have hf := x_iN hf q_31
              refine lv_aload_n hx hb dX10_slip_52 rfl (lv_at hl 0 rfl) ?_
              refine fg_X10_47 (k2 := 6) C hw ic0_0 rfl dX10_slip_53 ?_
              refine lv_iload_n hx hb dX10_slip_56 rfl (lv_at hl 2 rfl) ?_
              obtain ⟨q_32, hf⟩ := x_gE hf
              refine x_rrld C hw ic0_6 q_32 (k2 := (9 + a2.toNatClampNeg)) (rr0_6 _) dX10_slip_57 ?_
              have h_33 : x_is 0 (9 + a2.toNatClampNeg) 12 := (rr0_6 a2.toNatClampNeg) ▸ x_ta ic0_6 (by decide) (x_ilt q_32)
              refine lv_iload hx hb dX10_slip_58 (lv_at hl 4 rfl) ?_
              obtain ⟨q_34, hf⟩ := x_gE hf
              refine x_ald C hw h_33 q_34 rfl dX10_slip_60 ?_
              refine lv_topi (fun x6_35 ex6_35 => ?_)
              have hf := x_lE ex6_35 hf
              refine lv_istore (lv' := [(6, .int x6_35), (0, .ref (g.2.2.1 0)), (1, .int a1), (2, .int a2), (3, .long x3_25), (5, .int x5_26)]) hx hb dX10_slip_61 hl (by decide) rfl (fun ls hl => ?_)
              refine lv_iload hx hb dX10_slip_63 (lv_at hl 5 rfl) ?_
              refine lv_iconst (v := (2 : Int32)) hx hb dX10_slip_65 (by decide) ?_
              refine lv_irem hx hb dX10_slip_66 (by decide) ?_
              obtain ⟨k75_38, ek75_38, hf⟩ := x_jE hf
              have hk75_38 : ∀ (H : Heap) (locs : List Loc) (M_39 : xM) (z_37 : Int32) (ls : Array Slot) , lv_has ls 8 [(6, .int x6_35), (0, .ref (g.2.2.1 0)), (1, .int a1), (2, .int a2), (3, .long x3_25), (5, .int x5_26)] → x_w g 0 s H locs M_39 → k75_38 M_39 z_37 = some (r, M') → W p l e (x_rm 2 50) s m args below meth c H locs 0 0 Q (F0 m 75 ls [.int z_37]) := by
                intro H locs M_39 z_37 ls  hl hw hf
                rw [ek75_38] at hf
                refine lv_istore (lv' := [(7, .int z_37), (6, .int x6_35), (0, .ref (g.2.2.1 0)), (1, .int a1), (2, .int a2), (3, .long x3_25), (5, .int x5_26)]) hx hb dX10_slip_75 hl (by decide) rfl (fun ls hl => ?_)
                refine lv_iload hx hb dX10_slip_77 (lv_at hl 0 rfl) ?_
                obtain ⟨k101_40, ek101_40, hf⟩ := x_jE hf
                have hk101_40 : ∀ (H : Heap) (locs : List Loc) (M_41 : xM)  (ls : Array Slot) , lv_has ls 8 [(7, .int z_37), (6, .int x6_35), (0, .ref (g.2.2.1 0)), (1, .int a1), (2, .int a2), (3, .long x3_25), (5, .int x5_26)] → x_w g 0 s H locs M_41 → k101_40 M_41 = some (r, M') → W p l e (x_rm 2 50) s m args below meth c H locs 0 0 Q (F0 m 101 ls []) := by
                  intro H locs M_41  ls  hl hw hf
                  rw [ek101_40] at hf
                  refine lv_iload hx hb dX10_slip_101 (lv_at hl 0 rfl) ?_
                  obtain ⟨k112_43, ek112_43, hf⟩ := x_jE hf
                  have hk112_43 : ∀ (H : Heap) (locs : List Loc) (M_44 : xM) (x3_42 : Int64) (ls : Array Slot) , lv_has ls 8 [(0, .ref (g.2.2.1 0)), (1, .int a1), (2, .int a2), (5, .int x5_26), (3, .long x3_42)] → x_w g 0 s H locs M_44 → k112_43 M_44 x3_42 = some (r, M') → W p l e (x_rm 2 50) s m args below meth c H locs 0 0 Q (F0 m 112 ls []) := by
                    intro H locs M_44 x3_42 ls  hl hw hf
                    rw [ek112_43] at hf
                    obtain ⟨x5_45, ex5_45⟩ : ∃ z : Int32, z = (x5_26 + (1 : Int32)) := ⟨_, rfl⟩
                    have hf := x_lE ex5_45 hf
                    refine lv_iinc (v := x5_45) (lv' := [(5, .int x5_45), (0, .ref (g.2.2.1 0)), (1, .int a1), (2, .int a2), (3, .long x3_42)]) hx hb dX10_slip_112 hl (k := 3) rfl (by rw [ex5_45]; rfl) (by decide) rfl (fun ls hl => ?_)
                    refine lv_goto (tgt := 41) hx hb dX10_slip_115 (by decide) ?_
                    exact ih_29 _ _ _ _ _ _ (lv_sub hl [1, 2, 3, 4, 0] rfl) hw hf
                  refine lv_if_eq (tgt := 112) hx hb dX10_slip_103 (by decide) (fun q_46 => ?_) (fun q_46 => ?_)
                  · have hf := x_iP hf q_46
                    exact hk112_43 _ _ _ _ _ (lv_sub hl [2, 3, 4, 6, 5] rfl) hw hf
                  · have hf := x_iN hf q_46
                    refine lv_lload_n hx hb dX10_slip_106 rfl (lv_at hl 5 rfl) ?_
                    refine lv_iload hx hb dX10_slip_107 (lv_at hl 1 rfl) ?_
                    refine lv_i2l hx hb dX10_slip_109 rfl ?_
                    refine lv_ladd hx hb dX10_slip_110 ?_
                    refine lv_topl (fun x3_47 ex3_47 => ?_)
                    have hf := x_lE ex3_47 hf
                    refine lv_lstore_n (lv' := [(3, .long x3_47), (7, .int z_37), (6, .int x6_35), (0, .ref (g.2.2.1 0)), (1, .int a1), (2, .int a2), (5, .int x5_26)]) hx hb dX10_slip_111 rfl hl (by decide) rfl (fun ls hl => ?_)
                    exact hk112_43 _ _ _ _ _ (lv_sub hl [3, 4, 5, 6, 0] rfl) hw hf
                refine lv_if_eq (tgt := 90) hx hb dX10_slip_79 (by decide) (fun q_48 => ?_) (fun q_48 => ?_)
                · have hf := x_iP hf q_48
                  refine lv_iload hx hb dX10_slip_90 (lv_at hl 1 rfl) ?_
                  refine lv_i2l hx hb dX10_slip_92 rfl ?_
                  refine lv_lload_n hx hb dX10_slip_93 rfl (lv_at hl 5 rfl) ?_
                  refine W.lcmp hx hb dX10_slip_94 ?_
                  refine lv_if_eq (tgt := 101) hx hb dX10_slip_95 (by decide) (fun q_49 => ?_) (fun q_49 => ?_)
                  · have hf := x_iP hf q_49
                    exact hk101_40 _ _ _ _ (lv_sub hl [0, 1, 2, 3, 4, 5, 6] rfl) hw hf
                  · have hf := x_iN hf q_49
                    refine lv_iload hx hb dX10_slip_98 (lv_at hl 6 rfl) ?_
                    exact ret hf dX10_slip_100 hw
                · have hf := x_iN hf q_48
                  refine lv_iload hx hb dX10_slip_82 (lv_at hl 1 rfl) ?_
                  refine lv_if_ge (tgt := 101) hx hb dX10_slip_84 (by decide) (fun q_50 => ?_) (fun q_50 => ?_)
                  · have hf := x_iP hf q_50
                    exact hk101_40 _ _ _ _ (lv_sub hl [0, 1, 2, 3, 4, 5, 6] rfl) hw hf
                  · have hf := x_iN hf q_50
                    exact hk87_23 _ _ _ _ _ (lv_sub hl [6] rfl) hw hf
              refine lv_if_ne (tgt := 74) hx hb dX10_slip_67 (by decide) (fun q_51 => ?_) (fun q_51 => ?_)
              · have hf := x_iN hf q_51
                refine lv_iconst (v := (0 : Int32)) hx hb dX10_slip_74 (by decide) ?_
                exact hk75_38 _ _ _ _ _ (lv_sub hl [0, 1, 2, 3, 4, 5] rfl) hw hf
              · have hf := x_iP hf q_51
                refine lv_iconst (v := (1 : Int32)) hx hb dX10_slip_70 (by decide) ?_
                refine lv_goto (tgt := 75) hx hb dX10_slip_71 (by decide) ?_
                exact hk75_38 _ _ _ _ _ (lv_sub hl [0, 1, 2, 3, 4, 5] rfl) hw hf
        exact hL_52 _ _ _ _ _ _ _ (lv_sub hl [2, 3, 4, 1, 0] rfl) hw hf
      · have hf := x_iN hf q_10
        refine lv_ldcw hx hb hown (hB _ mk_X10_329) dX10_slip_32 ?_
        exact ret hf dX10_slip_35 hw
    · have hf := x_iP hf q_8
      refine lv_ldc hx hb hown (hB _ mk_X10_61) dX10_slip_20 ?_
      exact ret hf dX10_slip_22 hw
noncomputable def fX10_keep (M : xM)  : Option (Int32 × xM) := x_v (fX8_become M 2 1) fun M_1 => x_l (x_up M_1 0 2 (1 : Int32)) fun M_3 => some ((M_3 1 0), M_3)
set_option maxRecDepth 100000 in
set_option maxHeartbeats 4000000 in
theorem mX10_keep (l : Launch) (g : xG)  {r : Int32} {M' : xM}  {M : xM} (hf : fX10_keep M  = some (r, M')) : x_cI l g 0 yX10_keep cX10_keep 1 .int 3 103 [.ref (g.2.2.1 0)] M (fun v N => v = r ∧ N = M') := by
  refine x_stI RX10 (by decide) rfl (Nat.le_of_ble_eq_true rfl) ?_
  intro p e s m args below meth c Q ls C hw ret hl
  obtain ⟨hx, hb, hml, hown, hB, -⟩ := id C
  have hl : lv_has ls 1 [(0, .ref (g.2.2.1 0))] := hl
  unfold fX10_keep at hf
  refine lv_aload_n hx hb dX10_keep_0 rfl (lv_at hl 0 rfl) ?_
  refine fg_X10_16 (k2 := 2) C hw ic0_0 rfl dX10_keep_1 ?_
  refine lv_aload_n hx hb dX10_keep_4 rfl (lv_at hl 0 rfl) ?_
  refine fg_X10_10 (k2 := 1) C hw ic0_0 rfl dX10_keep_5 ?_
  obtain ⟨tM_1, c_2, hf⟩ := x_vE hf
  refine x_vV C hw hl.1 [.ref (g.2.2.1 1)] [] (mX8_become l g ic0_2 ic0_1 c_2) lk_X10_335 ic0_2 (by decide) rfl (by decide) rfl (Nat.le_of_ble_eq_true rfl) ⟨Nat.zero_le _, Nat.zero_le _⟩ dX10_keep_8 (fun M_1 H locs hN hw => ?_)
  obtain rfl := hN
  refine lv_aload_n hx hb dX10_keep_11 rfl (lv_at hl 0 rfl) ?_
  refine lv_iconst (v := (1 : Int32)) hx hb dX10_keep_12 (by decide) ?_
  refine fp_X10_19 C hw (⟨rfl, rfl⟩ : _ ∧ _) ic0_0 dX10_keep_13 (fun H locs hw => ?_)
  obtain ⟨M_3, eM_3⟩ : ∃ z, z = (x_up M_1 0 2 (1 : Int32)) := ⟨_, rfl⟩
  rw [← eM_3] at hw
  have hf := x_lE eM_3 hf
  refine lv_aload_n hx hb dX10_keep_16 rfl (lv_at hl 0 rfl) ?_
  refine fg_X10_10 (k2 := 1) C hw ic0_0 rfl dX10_keep_17 ?_
  refine fg_X10_108 C hw ic0_1 dX10_keep_20 ?_
  exact ret hf dX10_keep_23 hw
noncomputable def fX10_again (M : xM)  : Option (Int32 × xM) := if (M 0 2) = 0 then (some ((-1000000002 : Int32), M)) else (x_v (fX8_become M 1 2) fun M_2 => some ((M_2 1 0), M_2))
set_option maxRecDepth 100000 in
set_option maxHeartbeats 4000000 in
theorem mX10_again (l : Launch) (g : xG)  {r : Int32} {M' : xM}  {M : xM} (hf : fX10_again M  = some (r, M')) : x_cI l g 0 yX10_again cX10_again 1 .int 3 103 [.ref (g.2.2.1 0)] M (fun v N => v = r ∧ N = M') := by
  refine x_stI RX10 (by decide) rfl (Nat.le_of_ble_eq_true rfl) ?_
  intro p e s m args below meth c Q ls C hw ret hl
  obtain ⟨hx, hb, hml, hown, hB, -⟩ := id C
  have hl : lv_has ls 1 [(0, .ref (g.2.2.1 0))] := hl
  unfold fX10_again at hf
  refine lv_aload_n hx hb dX10_again_0 rfl (lv_at hl 0 rfl) ?_
  refine fg_X10_19 C hw ic0_0 dX10_again_1 ?_
  refine lv_if_ne (tgt := 10) hx hb dX10_again_4 (by decide) (fun q_1 => ?_) (fun q_1 => ?_)
  · have hf := x_iN hf q_1
    refine lv_aload_n hx hb dX10_again_10 rfl (lv_at hl 0 rfl) ?_
    refine fg_X10_10 (k2 := 1) C hw ic0_0 rfl dX10_again_11 ?_
    refine lv_aload_n hx hb dX10_again_14 rfl (lv_at hl 0 rfl) ?_
    refine fg_X10_16 (k2 := 2) C hw ic0_0 rfl dX10_again_15 ?_
    obtain ⟨tM_2, c_3, hf⟩ := x_vE hf
    refine x_vV C hw hl.1 [.ref (g.2.2.1 2)] [] (mX8_become l g ic0_1 ic0_2 c_3) lk_X10_335 ic0_1 (by decide) rfl (by decide) rfl (Nat.le_of_ble_eq_true rfl) ⟨Nat.zero_le _, Nat.zero_le _⟩ dX10_again_18 (fun M_2 H locs hN hw => ?_)
    obtain rfl := hN
    refine lv_aload_n hx hb dX10_again_21 rfl (lv_at hl 0 rfl) ?_
    refine fg_X10_10 (k2 := 1) C hw ic0_0 rfl dX10_again_22 ?_
    refine fg_X10_108 C hw ic0_1 dX10_again_25 ?_
    exact ret hf dX10_again_28 hw
  · have hf := x_iP hf q_1
    refine lv_ldc hx hb hown (hB _ mk_X10_91) dX10_again_7 ?_
    exact ret hf dX10_again_9 hw
noncomputable def fX10_sheet_L28 (a1 : Int32) (a2 : Int32) (k48_7 : xM → Option (Int32 × xM)) : Nat → xM → Int32 → Option (Int32 × xM)
  | 0, _, _ => none
  | n_15 + 1, M_14, x3_13 => if a2 ≤ x3_13 then (k48_7 M_14) else (x_g a1 2 (x_g x3_13 (xn 0 (9 + a1.toNatClampNeg)) (x_l (x_up M_14 (9 + a1.toNatClampNeg) x3_13.toNatClampNeg (0 : Int32)) fun M_21 => x_l (x3_13 + (1 : Int32)) fun x3_22 => fX10_sheet_L28 a1 a2 k48_7 n_15 M_21 x3_22)))
noncomputable def fX10_sheet (M : xM) (a1 : Int32) (a2 : Int32) : Option (Int32 × xM) := x_b (fX10_isWithin M a1 (0 : Int32) (1 : Int32)) fun v_3 M_1 => if v_3 = 0 then (some ((-1000000001 : Int32), M_1)) else (if a2 ≤ (24 : Int32) then (if 0 ≤ a2 then (x_l (fun (M_8 : xM) => x_g a1 2 (x_l (x_up M_8 8 a1.toNatClampNeg a2) fun M_10 => x_g a1 2 (x_l (x_up M_10 7 a1.toNatClampNeg (0 : Int32)) fun M_12 => some (a2, M_12)))) fun k48_7 => fX10_sheet_L28 a1 a2 k48_7 x_FU M_1 (0 : Int32)) else (some ((-1000000014 : Int32), M_1))) else (some ((-1000000001 : Int32), M_1)))
set_option maxRecDepth 100000 in
set_option maxHeartbeats 4000000 in
theorem mX10_sheet (l : Launch) (g : xG) {a1 : Int32} {a2 : Int32} {r : Int32} {M' : xM}  {M : xM} (hf : fX10_sheet M a1 a2 = some (r, M')) : x_cI l g 0 yX10_sheet cX10_sheet 4 .int 1 22 [.ref (g.2.2.1 0), .int a1, .int a2] M (fun v N => v = r ∧ N = M') := by
  refine x_stI RX10 (by decide) rfl (Nat.le_of_ble_eq_true rfl) ?_
  intro p e s m args below meth c Q ls C hw ret hl
  obtain ⟨hx, hb, hml, hown, hB, -⟩ := id C
  have hl : lv_has ls 4 [(0, .ref (g.2.2.1 0)), (1, .int a1), (2, .int a2)] := hl
  unfold fX10_sheet at hf
  refine lv_iload_n hx hb dX10_sheet_0 rfl (lv_at hl 1 rfl) ?_
  refine lv_iconst (v := (0 : Int32)) hx hb dX10_sheet_1 (by decide) ?_
  refine lv_iconst (v := (1 : Int32)) hx hb dX10_sheet_2 (by decide) ?_
  obtain ⟨tv_3, tM_1, c_2, hf⟩ := x_bE hf
  refine x_sI C hw hl.1 [.int a1, .int (0 : Int32), .int (1 : Int32)] [] (mX10_isWithin l g c_2) lk_X10_57 (by decide) rfl (Nat.le_of_ble_eq_true rfl) ⟨Nat.zero_le _, Nat.zero_le _⟩ dX10_sheet_3 (fun v_3 M_1 H locs hN hw => ?_)
  obtain ⟨rfl, rfl⟩ := hN
  refine lv_if_eq (tgt := 15) hx hb dX10_sheet_6 (by decide) (fun q_4 => ?_) (fun q_4 => ?_)
  · have hf := x_iP hf q_4
    refine lv_ldc hx hb hown (hB _ mk_X10_61) dX10_sheet_15 ?_
    exact ret hf dX10_sheet_17 hw
  · have hf := x_iN hf q_4
    refine lv_iload_n hx hb dX10_sheet_9 rfl (lv_at hl 2 rfl) ?_
    refine lv_bipush (v := (24 : Int32)) hx hb dX10_sheet_10 (by decide) ?_
    refine lv_icmp_le (tgt := 18) hx hb dX10_sheet_12 (by decide) (fun q_5 => ?_) (fun q_5 => ?_)
    · have hf := x_iP hf q_5
      refine lv_iload_n hx hb dX10_sheet_18 rfl (lv_at hl 2 rfl) ?_
      refine lv_if_ge (tgt := 26) hx hb dX10_sheet_19 (by decide) (fun q_6 => ?_) (fun q_6 => ?_)
      · have hf := x_iP hf q_6
        refine lv_iconst (v := (0 : Int32)) hx hb dX10_sheet_26 (by decide) ?_
        refine lv_istore_n (lv' := [(3, .int (0 : Int32)), (0, .ref (g.2.2.1 0)), (1, .int a1), (2, .int a2)]) hx hb dX10_sheet_27 rfl hl (by decide) rfl (fun ls hl => ?_)
        obtain ⟨k48_7, ek48_7, hf⟩ := x_jE hf
        have hk48_7 : ∀ (H : Heap) (locs : List Loc) (M_8 : xM)  (ls : Array Slot) , lv_has ls 4 [(0, .ref (g.2.2.1 0)), (1, .int a1), (2, .int a2)] → x_w g 0 s H locs M_8 → k48_7 M_8 = some (r, M') → W p l e (x_rm 1 22) s m args below meth c H locs 0 0 Q (F0 m 48 ls []) := by
          intro H locs M_8  ls  hl hw hf
          rw [ek48_7] at hf
          refine lv_aload_n hx hb dX10_sheet_48 rfl (lv_at hl 0 rfl) ?_
          refine fg_X10_54 (k2 := 8) C hw ic0_0 rfl dX10_sheet_49 ?_
          refine lv_iload_n hx hb dX10_sheet_52 rfl (lv_at hl 1 rfl) ?_
          refine lv_iload_n hx hb dX10_sheet_53 rfl (lv_at hl 2 rfl) ?_
          obtain ⟨q_9, hf⟩ := x_gE hf
          refine x_ast C hw ic0_8 q_9 rfl dX10_sheet_54 (fun H locs hw => ?_)
          obtain ⟨M_10, eM_10⟩ : ∃ z, z = (x_up M_8 8 a1.toNatClampNeg a2) := ⟨_, rfl⟩
          rw [← eM_10] at hw
          have hf := x_lE eM_10 hf
          refine lv_aload_n hx hb dX10_sheet_55 rfl (lv_at hl 0 rfl) ?_
          refine fg_X10_50 (k2 := 7) C hw ic0_0 rfl dX10_sheet_56 ?_
          refine lv_iload_n hx hb dX10_sheet_59 rfl (lv_at hl 1 rfl) ?_
          refine lv_iconst (v := (0 : Int32)) hx hb dX10_sheet_60 (by decide) ?_
          obtain ⟨q_11, hf⟩ := x_gE hf
          refine x_zst C hw ic0_7 q_11 rfl rfl dX10_sheet_61 (fun H locs hw => ?_)
          obtain ⟨M_12, eM_12⟩ : ∃ z, z = (x_up M_10 7 a1.toNatClampNeg (0 : Int32)) := ⟨_, rfl⟩
          rw [← eM_12] at hw
          have hf := x_lE eM_12 hf
          refine lv_iload_n hx hb dX10_sheet_62 rfl (lv_at hl 2 rfl) ?_
          exact ret hf dX10_sheet_63 hw
        have hL_23 : ∀ (n_15 : Nat) (H : Heap) (locs : List Loc) (M_14 : xM) (x3_13 : Int32) (ls : Array Slot) , lv_has ls 4 [(0, .ref (g.2.2.1 0)), (1, .int a1), (2, .int a2), (3, .int x3_13)] → x_w g 0 s H locs M_14 → fX10_sheet_L28 a1 a2 k48_7 n_15 M_14 x3_13 = some (r, M') → W p l e (x_rm 1 22) s m args below meth c H locs 0 0 Q (F0 m 28 ls []) := by
          intro n_15
          induction n_15 with
          | zero =>
            intro H locs M_14 x3_13 ls  hl hw hf
            rw [fX10_sheet_L28] at hf
            cases hf
          | succ n_15 ih_16 =>
            intro H locs M_14 x3_13 ls  hl hw hf
            rw [fX10_sheet_L28] at hf
            refine lv_iload_n hx hb dX10_sheet_28 rfl (lv_at hl 3 rfl) ?_
            refine lv_iload_n hx hb dX10_sheet_29 rfl (lv_at hl 2 rfl) ?_
            refine lv_icmp_ge (tgt := 48) hx hb dX10_sheet_30 (by decide) (fun q_17 => ?_) (fun q_17 => ?_)
            · have hf := x_iP hf q_17
              exact hk48_7 _ _ _ _ (lv_sub hl [0, 1, 2] rfl) hw hf
            · have hf := x_iN hf q_17
              refine lv_aload_n hx hb dX10_sheet_33 rfl (lv_at hl 0 rfl) ?_
              refine fg_X10_47 (k2 := 6) C hw ic0_0 rfl dX10_sheet_34 ?_
              refine lv_iload_n hx hb dX10_sheet_37 rfl (lv_at hl 1 rfl) ?_
              obtain ⟨q_18, hf⟩ := x_gE hf
              refine x_rrld C hw ic0_6 q_18 (k2 := (9 + a1.toNatClampNeg)) (rr0_6 _) dX10_sheet_38 ?_
              have h_19 : x_is 0 (9 + a1.toNatClampNeg) 12 := (rr0_6 a1.toNatClampNeg) ▸ x_ta ic0_6 (by decide) (x_ilt q_18)
              refine lv_iload_n hx hb dX10_sheet_39 rfl (lv_at hl 3 rfl) ?_
              refine lv_iconst (v := (0 : Int32)) hx hb dX10_sheet_40 (by decide) ?_
              obtain ⟨q_20, hf⟩ := x_gE hf
              refine x_ast C hw h_19 q_20 rfl dX10_sheet_41 (fun H locs hw => ?_)
              obtain ⟨M_21, eM_21⟩ : ∃ z, z = (x_up M_14 (9 + a1.toNatClampNeg) x3_13.toNatClampNeg (0 : Int32)) := ⟨_, rfl⟩
              rw [← eM_21] at hw
              have hf := x_lE eM_21 hf
              obtain ⟨x3_22, ex3_22⟩ : ∃ z : Int32, z = (x3_13 + (1 : Int32)) := ⟨_, rfl⟩
              have hf := x_lE ex3_22 hf
              refine lv_iinc (v := x3_22) (lv' := [(3, .int x3_22), (0, .ref (g.2.2.1 0)), (1, .int a1), (2, .int a2)]) hx hb dX10_sheet_42 hl (k := 3) rfl (by rw [ex3_22]; rfl) (by decide) rfl (fun ls hl => ?_)
              refine lv_goto (tgt := 28) hx hb dX10_sheet_45 (by decide) ?_
              exact ih_16 _ _ _ _ _ (lv_sub hl [1, 2, 3, 0] rfl) hw hf
        exact hL_23 _ _ _ _ _ _ (lv_sub hl [1, 2, 3, 0] rfl) hw hf
      · have hf := x_iN hf q_6
        refine lv_ldcw hx hb hown (hB _ mk_X10_338) dX10_sheet_22 ?_
        exact ret hf dX10_sheet_25 hw
    · have hf := x_iN hf q_5
      refine lv_ldc hx hb hown (hB _ mk_X10_61) dX10_sheet_15 ?_
      exact ret hf dX10_sheet_17 hw
noncomputable def fX10_mark (M : xM) (a1 : Int32) (a2 : Int32) (a3 : Int32) : Option (Int32 × xM) := x_b (fX10_isWithin M a1 (0 : Int32) (1 : Int32)) fun v_3 M_1 => if v_3 = 0 then (some ((-1000000001 : Int32), M_1)) else (x_g a1 2 (if (M_1 7 a1.toNatClampNeg) = 0 then (x_g a1 2 (x_b (fX10_isWithin M_1 a2 (0 : Int32) ((M_1 8 a1.toNatClampNeg) - (1 : Int32))) fun v_10 M_8 => if v_10 = 0 then (some ((-1000000013 : Int32), M_8)) else (x_g a1 2 (x_g a2 (xn 0 (9 + a1.toNatClampNeg)) (x_l (M_8 (9 + a1.toNatClampNeg) a2.toNatClampNeg) fun x4_15 => x_g a1 2 (x_g a2 (xn 0 (9 + a1.toNatClampNeg)) (x_l (x_up M_8 (9 + a1.toNatClampNeg) a2.toNatClampNeg a3) fun M_18 => some (x4_15, M_18)))))))) else (some ((-1000000011 : Int32), M_1))))
set_option maxRecDepth 100000 in
set_option maxHeartbeats 4000000 in
theorem mX10_mark (l : Launch) (g : xG) {a1 : Int32} {a2 : Int32} {a3 : Int32} {r : Int32} {M' : xM}  {M : xM} (hf : fX10_mark M a1 a2 a3 = some (r, M')) : x_cI l g 0 yX10_mark cX10_mark 5 .int 1 22 [.ref (g.2.2.1 0), .int a1, .int a2, .int a3] M (fun v N => v = r ∧ N = M') := by
  refine x_stI RX10 (by decide) rfl (Nat.le_of_ble_eq_true rfl) ?_
  intro p e s m args below meth c Q ls C hw ret hl
  obtain ⟨hx, hb, hml, hown, hB, -⟩ := id C
  have hl : lv_has ls 5 [(0, .ref (g.2.2.1 0)), (1, .int a1), (2, .int a2), (3, .int a3)] := hl
  unfold fX10_mark at hf
  refine lv_iload_n hx hb dX10_mark_0 rfl (lv_at hl 1 rfl) ?_
  refine lv_iconst (v := (0 : Int32)) hx hb dX10_mark_1 (by decide) ?_
  refine lv_iconst (v := (1 : Int32)) hx hb dX10_mark_2 (by decide) ?_
  obtain ⟨tv_3, tM_1, c_2, hf⟩ := x_bE hf
  refine x_sI C hw hl.1 [.int a1, .int (0 : Int32), .int (1 : Int32)] [] (mX10_isWithin l g c_2) lk_X10_57 (by decide) rfl (Nat.le_of_ble_eq_true rfl) ⟨Nat.zero_le _, Nat.zero_le _⟩ dX10_mark_3 (fun v_3 M_1 H locs hN hw => ?_)
  obtain ⟨rfl, rfl⟩ := hN
  refine lv_if_ne (tgt := 12) hx hb dX10_mark_6 (by decide) (fun q_4 => ?_) (fun q_4 => ?_)
  · have hf := x_iN hf q_4
    refine lv_aload_n hx hb dX10_mark_12 rfl (lv_at hl 0 rfl) ?_
    refine fg_X10_50 (k2 := 7) C hw ic0_0 rfl dX10_mark_13 ?_
    refine lv_iload_n hx hb dX10_mark_16 rfl (lv_at hl 1 rfl) ?_
    obtain ⟨q_5, hf⟩ := x_gE hf
    refine x_zld C hw ic0_7 q_5 rfl dX10_mark_17 ?_
    refine lv_if_eq (tgt := 25) hx hb dX10_mark_18 (by decide) (fun q_6 => ?_) (fun q_6 => ?_)
    · have hf := x_iP hf q_6
      refine lv_iload_n hx hb dX10_mark_25 rfl (lv_at hl 2 rfl) ?_
      refine lv_iconst (v := (0 : Int32)) hx hb dX10_mark_26 (by decide) ?_
      refine lv_aload_n hx hb dX10_mark_27 rfl (lv_at hl 0 rfl) ?_
      refine fg_X10_54 (k2 := 8) C hw ic0_0 rfl dX10_mark_28 ?_
      refine lv_iload_n hx hb dX10_mark_31 rfl (lv_at hl 1 rfl) ?_
      obtain ⟨q_7, hf⟩ := x_gE hf
      refine x_ald C hw ic0_8 q_7 rfl dX10_mark_32 ?_
      refine lv_iconst (v := (1 : Int32)) hx hb dX10_mark_33 (by decide) ?_
      refine lv_isub hx hb dX10_mark_34 ?_
      obtain ⟨tv_10, tM_8, c_9, hf⟩ := x_bE hf
      refine x_sI C hw hl.1 [.int a2, .int (0 : Int32), .int ((M_1 8 a1.toNatClampNeg) - (1 : Int32))] [] (mX10_isWithin l g c_9) lk_X10_57 (by decide) rfl (Nat.le_of_ble_eq_true rfl) ⟨Nat.zero_le _, Nat.zero_le _⟩ dX10_mark_35 (fun v_10 M_8 H locs hN hw => ?_)
      obtain ⟨rfl, rfl⟩ := hN
      refine lv_if_ne (tgt := 45) hx hb dX10_mark_38 (by decide) (fun q_11 => ?_) (fun q_11 => ?_)
      · have hf := x_iN hf q_11
        refine lv_aload_n hx hb dX10_mark_45 rfl (lv_at hl 0 rfl) ?_
        refine fg_X10_47 (k2 := 6) C hw ic0_0 rfl dX10_mark_46 ?_
        refine lv_iload_n hx hb dX10_mark_49 rfl (lv_at hl 1 rfl) ?_
        obtain ⟨q_12, hf⟩ := x_gE hf
        refine x_rrld C hw ic0_6 q_12 (k2 := (9 + a1.toNatClampNeg)) (rr0_6 _) dX10_mark_50 ?_
        have h_13 : x_is 0 (9 + a1.toNatClampNeg) 12 := (rr0_6 a1.toNatClampNeg) ▸ x_ta ic0_6 (by decide) (x_ilt q_12)
        refine lv_iload_n hx hb dX10_mark_51 rfl (lv_at hl 2 rfl) ?_
        obtain ⟨q_14, hf⟩ := x_gE hf
        refine x_ald C hw h_13 q_14 rfl dX10_mark_52 ?_
        refine lv_topi (fun x4_15 ex4_15 => ?_)
        have hf := x_lE ex4_15 hf
        refine lv_istore (lv' := [(4, .int x4_15), (0, .ref (g.2.2.1 0)), (1, .int a1), (2, .int a2), (3, .int a3)]) hx hb dX10_mark_53 hl (by decide) rfl (fun ls hl => ?_)
        refine lv_aload_n hx hb dX10_mark_55 rfl (lv_at hl 1 rfl) ?_
        refine fg_X10_47 (k2 := 6) C hw ic0_0 rfl dX10_mark_56 ?_
        refine lv_iload_n hx hb dX10_mark_59 rfl (lv_at hl 2 rfl) ?_
        obtain ⟨q_16, hf⟩ := x_gE hf
        refine x_rrld C hw ic0_6 q_16 (k2 := (9 + a1.toNatClampNeg)) (rr0_6 _) dX10_mark_60 ?_
        refine lv_iload_n hx hb dX10_mark_61 rfl (lv_at hl 3 rfl) ?_
        refine lv_iload_n hx hb dX10_mark_62 rfl (lv_at hl 4 rfl) ?_
        obtain ⟨q_17, hf⟩ := x_gE hf
        refine x_ast C hw h_13 q_17 rfl dX10_mark_63 (fun H locs hw => ?_)
        obtain ⟨M_18, eM_18⟩ : ∃ z, z = (x_up M_8 (9 + a1.toNatClampNeg) a2.toNatClampNeg a3) := ⟨_, rfl⟩
        rw [← eM_18] at hw
        have hf := x_lE eM_18 hf
        refine lv_iload hx hb dX10_mark_64 (lv_at hl 0 rfl) ?_
        exact ret hf dX10_mark_66 hw
      · have hf := x_iP hf q_11
        refine lv_ldcw hx hb hown (hB _ mk_X10_339) dX10_mark_41 ?_
        exact ret hf dX10_mark_44 hw
    · have hf := x_iN hf q_6
      refine lv_ldcw hx hb hown (hB _ mk_X10_329) dX10_mark_21 ?_
      exact ret hf dX10_mark_24 hw
  · have hf := x_iP hf q_4
    refine lv_ldc hx hb hown (hB _ mk_X10_61) dX10_mark_9 ?_
    exact ret hf dX10_mark_11 hw
noncomputable def fX10_copy (M : xM) (a1 : Int32) (a2 : Int32) (a3 : Int32) (a4 : Int32) (a5 : Int32) : Option (Int32 × xM) := x_b (fX10_isWithin M a1 (0 : Int32) (1 : Int32)) fun v_3 M_1 => if v_3 = 0 then (some ((-1000000001 : Int32), M_1)) else (x_b (fX10_isWithin M_1 a3 (0 : Int32) (1 : Int32)) fun v_7 M_5 => if v_7 = 0 then (some ((-1000000001 : Int32), M_5)) else (x_g a1 2 (if (M_5 7 a1.toNatClampNeg) = 0 then (x_g a3 2 (if (M_5 7 a3.toNatClampNeg) = 0 then (x_g a1 2 (x_b (fX10_isWithin M_5 a2 (0 : Int32) (M_5 8 a1.toNatClampNeg)) fun v_16 M_14 => if v_16 = 0 then (some ((-1000000013 : Int32), M_14)) else (x_g a3 2 (x_b (fX10_isWithin M_14 a4 (0 : Int32) (M_14 8 a3.toNatClampNeg)) fun v_21 M_19 => if v_21 = 0 then (some ((-1000000013 : Int32), M_19)) else (x_g a1 2 (x_g a3 2 (x_b (fX10_isWithin M_19 a5 (0 : Int32) (if ((M_19 8 a3.toNatClampNeg) - a4) < ((M_19 8 a1.toNatClampNeg) - a2) then ((M_19 8 a3.toNatClampNeg) - a4) else ((M_19 8 a1.toNatClampNeg) - a2))) fun v_27 M_25 => if v_27 = 0 then (some ((-1000000013 : Int32), M_25)) else (x_g a1 2 (x_g a3 2 (x_cp a2 a4 a5 (xn 0 (9 + a1.toNatClampNeg)) (xn 0 (9 + a3.toNatClampNeg)) (x_l (x_mv M_25 (9 + a1.toNatClampNeg) (9 + a3.toNatClampNeg) a2.toNatClampNeg a4.toNatClampNeg a5.toNatClampNeg) fun M_34 => some (a5, M_34)))))))))))) else (some ((-1000000011 : Int32), M_5)))) else (some ((-1000000011 : Int32), M_5)))))
set_option maxRecDepth 100000 in
set_option maxHeartbeats 4000000 in
theorem mX10_copy (l : Launch) (g : xG) {a1 : Int32} {a2 : Int32} {a3 : Int32} {a4 : Int32} {a5 : Int32} {r : Int32} {M' : xM}  {M : xM} (hf : fX10_copy M a1 a2 a3 a4 a5 = some (r, M')) : x_cI l g 0 yX10_copy cX10_copy 6 .int 1 60 [.ref (g.2.2.1 0), .int a1, .int a2, .int a3, .int a4, .int a5] M (fun v N => v = r ∧ N = M') := by
  refine x_stI RX10 (by decide) rfl (Nat.le_of_ble_eq_true rfl) ?_
  intro p e s m args below meth c Q ls C hw ret hl
  obtain ⟨hx, hb, hml, hown, hB, -⟩ := id C
  have hl : lv_has ls 6 [(0, .ref (g.2.2.1 0)), (1, .int a1), (2, .int a2), (3, .int a3), (4, .int a4), (5, .int a5)] := hl
  unfold fX10_copy at hf
  refine lv_iload_n hx hb dX10_copy_0 rfl (lv_at hl 1 rfl) ?_
  refine lv_iconst (v := (0 : Int32)) hx hb dX10_copy_1 (by decide) ?_
  refine lv_iconst (v := (1 : Int32)) hx hb dX10_copy_2 (by decide) ?_
  obtain ⟨tv_3, tM_1, c_2, hf⟩ := x_bE hf
  refine x_sI C hw hl.1 [.int a1, .int (0 : Int32), .int (1 : Int32)] [] (mX10_isWithin l g c_2) lk_X10_57 (by decide) rfl (Nat.le_of_ble_eq_true rfl) ⟨Nat.zero_le _, Nat.zero_le _⟩ dX10_copy_3 (fun v_3 M_1 H locs hN hw => ?_)
  obtain ⟨rfl, rfl⟩ := hN
  refine lv_if_eq (tgt := 18) hx hb dX10_copy_6 (by decide) (fun q_4 => ?_) (fun q_4 => ?_)
  · have hf := x_iP hf q_4
    refine lv_ldc hx hb hown (hB _ mk_X10_61) dX10_copy_18 ?_
    exact ret hf dX10_copy_20 hw
  · have hf := x_iN hf q_4
    refine lv_iload_n hx hb dX10_copy_9 rfl (lv_at hl 3 rfl) ?_
    refine lv_iconst (v := (0 : Int32)) hx hb dX10_copy_10 (by decide) ?_
    refine lv_iconst (v := (1 : Int32)) hx hb dX10_copy_11 (by decide) ?_
    obtain ⟨tv_7, tM_5, c_6, hf⟩ := x_bE hf
    refine x_sI C hw hl.1 [.int a3, .int (0 : Int32), .int (1 : Int32)] [] (mX10_isWithin l g c_6) lk_X10_57 (by decide) rfl (Nat.le_of_ble_eq_true rfl) ⟨Nat.zero_le _, Nat.zero_le _⟩ dX10_copy_12 (fun v_7 M_5 H locs hN hw => ?_)
    obtain ⟨rfl, rfl⟩ := hN
    refine lv_if_ne (tgt := 21) hx hb dX10_copy_15 (by decide) (fun q_8 => ?_) (fun q_8 => ?_)
    · have hf := x_iN hf q_8
      refine lv_aload_n hx hb dX10_copy_21 rfl (lv_at hl 0 rfl) ?_
      refine fg_X10_50 (k2 := 7) C hw ic0_0 rfl dX10_copy_22 ?_
      refine lv_iload_n hx hb dX10_copy_25 rfl (lv_at hl 1 rfl) ?_
      obtain ⟨q_9, hf⟩ := x_gE hf
      refine x_zld C hw ic0_7 q_9 rfl dX10_copy_26 ?_
      refine lv_if_ne (tgt := 39) hx hb dX10_copy_27 (by decide) (fun q_10 => ?_) (fun q_10 => ?_)
      · have hf := x_iN hf q_10
        refine lv_ldcw hx hb hown (hB _ mk_X10_329) dX10_copy_39 ?_
        exact ret hf dX10_copy_42 hw
      · have hf := x_iP hf q_10
        refine lv_aload_n hx hb dX10_copy_30 rfl (lv_at hl 0 rfl) ?_
        refine fg_X10_50 (k2 := 7) C hw ic0_0 rfl dX10_copy_31 ?_
        refine lv_iload_n hx hb dX10_copy_34 rfl (lv_at hl 3 rfl) ?_
        obtain ⟨q_11, hf⟩ := x_gE hf
        refine x_zld C hw ic0_7 q_11 rfl dX10_copy_35 ?_
        refine lv_if_eq (tgt := 43) hx hb dX10_copy_36 (by decide) (fun q_12 => ?_) (fun q_12 => ?_)
        · have hf := x_iP hf q_12
          refine lv_iload_n hx hb dX10_copy_43 rfl (lv_at hl 2 rfl) ?_
          refine lv_iconst (v := (0 : Int32)) hx hb dX10_copy_44 (by decide) ?_
          refine lv_aload_n hx hb dX10_copy_45 rfl (lv_at hl 0 rfl) ?_
          refine fg_X10_54 (k2 := 8) C hw ic0_0 rfl dX10_copy_46 ?_
          refine lv_iload_n hx hb dX10_copy_49 rfl (lv_at hl 1 rfl) ?_
          obtain ⟨q_13, hf⟩ := x_gE hf
          refine x_ald C hw ic0_8 q_13 rfl dX10_copy_50 ?_
          obtain ⟨tv_16, tM_14, c_15, hf⟩ := x_bE hf
          refine x_sI C hw hl.1 [.int a2, .int (0 : Int32), .int (M_5 8 a1.toNatClampNeg)] [] (mX10_isWithin l g c_15) lk_X10_57 (by decide) rfl (Nat.le_of_ble_eq_true rfl) ⟨Nat.zero_le _, Nat.zero_le _⟩ dX10_copy_51 (fun v_16 M_14 H locs hN hw => ?_)
          obtain ⟨rfl, rfl⟩ := hN
          refine lv_if_eq (tgt := 72) hx hb dX10_copy_54 (by decide) (fun q_17 => ?_) (fun q_17 => ?_)
          · have hf := x_iP hf q_17
            refine lv_ldcw hx hb hown (hB _ mk_X10_339) dX10_copy_72 ?_
            exact ret hf dX10_copy_75 hw
          · have hf := x_iN hf q_17
            refine lv_iload hx hb dX10_copy_57 (lv_at hl 4 rfl) ?_
            refine lv_iconst (v := (0 : Int32)) hx hb dX10_copy_59 (by decide) ?_
            refine lv_aload_n hx hb dX10_copy_60 rfl (lv_at hl 0 rfl) ?_
            refine fg_X10_54 (k2 := 8) C hw ic0_0 rfl dX10_copy_61 ?_
            refine lv_iload_n hx hb dX10_copy_64 rfl (lv_at hl 3 rfl) ?_
            obtain ⟨q_18, hf⟩ := x_gE hf
            refine x_ald C hw ic0_8 q_18 rfl dX10_copy_65 ?_
            obtain ⟨tv_21, tM_19, c_20, hf⟩ := x_bE hf
            refine x_sI C hw hl.1 [.int a4, .int (0 : Int32), .int (M_14 8 a3.toNatClampNeg)] [] (mX10_isWithin l g c_20) lk_X10_57 (by decide) rfl (Nat.le_of_ble_eq_true rfl) ⟨Nat.zero_le _, Nat.zero_le _⟩ dX10_copy_66 (fun v_21 M_19 H locs hN hw => ?_)
            obtain ⟨rfl, rfl⟩ := hN
            refine lv_if_ne (tgt := 76) hx hb dX10_copy_69 (by decide) (fun q_22 => ?_) (fun q_22 => ?_)
            · have hf := x_iN hf q_22
              refine lv_iload hx hb dX10_copy_76 (lv_at hl 5 rfl) ?_
              refine lv_iconst (v := (0 : Int32)) hx hb dX10_copy_78 (by decide) ?_
              refine lv_aload_n hx hb dX10_copy_79 rfl (lv_at hl 0 rfl) ?_
              refine fg_X10_54 (k2 := 8) C hw ic0_0 rfl dX10_copy_80 ?_
              refine lv_iload_n hx hb dX10_copy_83 rfl (lv_at hl 1 rfl) ?_
              obtain ⟨q_23, hf⟩ := x_gE hf
              refine x_ald C hw ic0_8 q_23 rfl dX10_copy_84 ?_
              refine lv_iload_n hx hb dX10_copy_85 rfl (lv_at hl 2 rfl) ?_
              refine lv_isub hx hb dX10_copy_86 ?_
              refine lv_aload_n hx hb dX10_copy_87 rfl (lv_at hl 0 rfl) ?_
              refine fg_X10_54 (k2 := 8) C hw ic0_0 rfl dX10_copy_88 ?_
              refine lv_iload_n hx hb dX10_copy_91 rfl (lv_at hl 3 rfl) ?_
              obtain ⟨q_24, hf⟩ := x_gE hf
              refine x_ald C hw ic0_8 q_24 rfl dX10_copy_92 ?_
              refine lv_iload hx hb dX10_copy_93 (lv_at hl 4 rfl) ?_
              refine lv_isub hx hb dX10_copy_95 ?_
              refine mm_X10_224 C hl.1 (Nat.le_of_ble_eq_true rfl) (Nat.le_of_ble_eq_true rfl) ⟨Nat.zero_le _, Nat.zero_le _⟩ dX10_copy_96 ?_
              obtain ⟨tv_27, tM_25, c_26, hf⟩ := x_bE hf
              refine x_sI C hw hl.1 [.int a5, .int (0 : Int32), .int (if ((M_19 8 a3.toNatClampNeg) - a4) < ((M_19 8 a1.toNatClampNeg) - a2) then ((M_19 8 a3.toNatClampNeg) - a4) else ((M_19 8 a1.toNatClampNeg) - a2))] [] (mX10_isWithin l g c_26) lk_X10_57 (by decide) rfl (Nat.le_of_ble_eq_true rfl) ⟨Nat.zero_le _, Nat.zero_le _⟩ dX10_copy_99 (fun v_27 M_25 H locs hN hw => ?_)
              obtain ⟨rfl, rfl⟩ := hN
              refine lv_if_ne (tgt := 109) hx hb dX10_copy_102 (by decide) (fun q_28 => ?_) (fun q_28 => ?_)
              · have hf := x_iN hf q_28
                refine lv_aload_n hx hb dX10_copy_109 rfl (lv_at hl 0 rfl) ?_
                refine fg_X10_47 (k2 := 6) C hw ic0_0 rfl dX10_copy_110 ?_
                refine lv_iload_n hx hb dX10_copy_113 rfl (lv_at hl 1 rfl) ?_
                obtain ⟨q_29, hf⟩ := x_gE hf
                refine x_rrld C hw ic0_6 q_29 (k2 := (9 + a1.toNatClampNeg)) (rr0_6 _) dX10_copy_114 ?_
                have h_30 : x_is 0 (9 + a1.toNatClampNeg) 12 := (rr0_6 a1.toNatClampNeg) ▸ x_ta ic0_6 (by decide) (x_ilt q_29)
                refine lv_iload_n hx hb dX10_copy_115 rfl (lv_at hl 2 rfl) ?_
                refine lv_aload_n hx hb dX10_copy_116 rfl (lv_at hl 0 rfl) ?_
                refine fg_X10_47 (k2 := 6) C hw ic0_0 rfl dX10_copy_117 ?_
                refine lv_iload_n hx hb dX10_copy_120 rfl (lv_at hl 3 rfl) ?_
                obtain ⟨q_31, hf⟩ := x_gE hf
                refine x_rrld C hw ic0_6 q_31 (k2 := (9 + a3.toNatClampNeg)) (rr0_6 _) dX10_copy_121 ?_
                have h_32 : x_is 0 (9 + a3.toNatClampNeg) 12 := (rr0_6 a3.toNatClampNeg) ▸ x_ta ic0_6 (by decide) (x_ilt q_31)
                refine lv_iload hx hb dX10_copy_122 (lv_at hl 4 rfl) ?_
                refine lv_iload hx hb dX10_copy_124 (lv_at hl 5 rfl) ?_
                obtain ⟨q_33, hf⟩ := x_cpE hf
                refine cpy_X10_340 C hw hl.1 h_30 h_32 q_33 (Nat.le_of_ble_eq_true rfl) (Nat.le_of_ble_eq_true rfl) dX10_copy_126 (fun H locs hw => ?_)
                obtain ⟨M_34, eM_34⟩ : ∃ z, z = (x_mv M_25 (9 + a1.toNatClampNeg) (9 + a3.toNatClampNeg) a2.toNatClampNeg a4.toNatClampNeg a5.toNatClampNeg) := ⟨_, rfl⟩
                rw [← eM_34] at hw
                have hf := x_lE eM_34 hf
                refine lv_iload hx hb dX10_copy_129 (lv_at hl 5 rfl) ?_
                exact ret hf dX10_copy_131 hw
              · have hf := x_iP hf q_28
                refine lv_ldcw hx hb hown (hB _ mk_X10_339) dX10_copy_105 ?_
                exact ret hf dX10_copy_108 hw
            · have hf := x_iP hf q_22
              refine lv_ldcw hx hb hown (hB _ mk_X10_339) dX10_copy_72 ?_
              exact ret hf dX10_copy_75 hw
        · have hf := x_iN hf q_12
          refine lv_ldcw hx hb hown (hB _ mk_X10_329) dX10_copy_39 ?_
          exact ret hf dX10_copy_42 hw
    · have hf := x_iP hf q_8
      refine lv_ldc hx hb hown (hB _ mk_X10_61) dX10_copy_18 ?_
      exact ret hf dX10_copy_20 hw
noncomputable def fX10_count (M : xM) (a1 : Int32) : Option (Int32 × xM) := if a1 = (0 : Int32) then (some ((M 1 1), M)) else (if a1 = (1 : Int32) then (some ((M 1 2), M)) else (if a1 = (2 : Int32) then (some ((M 1 3), M)) else (if a1 = (3 : Int32) then (some ((M 1 4), M)) else (if a1 = (4 : Int32) then (x_b (fX8_couples M) fun v_8 M_6 => some (v_8, M_6)) else (if a1 = (5 : Int32) then (x_b (fX8_openDeeds M) fun v_12 M_10 => some (v_12, M_10)) else (if a1 = (6 : Int32) then (some ((M 0 6), M)) else (if a1 = (7 : Int32) then (some ((M 11 1), M)) else (if a1 = (8 : Int32) then (some ((M 1 0), M)) else (if a1 = (9 : Int32) then (x_b (fX8_allCustody M) fun v_19 M_17 => some (v_19, M_17)) else (some ((-1000000001 : Int32), M)))))))))))
set_option maxRecDepth 100000 in
set_option maxHeartbeats 4000000 in
theorem mX10_count (l : Launch) (g : xG) {a1 : Int32} {r : Int32} {M' : xM}  {M : xM} (hf : fX10_count M a1 = some (r, M')) : x_cI l g 0 yX10_count cX10_count 2 .int 2 42 [.ref (g.2.2.1 0), .int a1] M (fun v N => v = r ∧ N = M') := by
  refine x_stI RX10 (by decide) rfl (Nat.le_of_ble_eq_true rfl) ?_
  intro p e s m args below meth c Q ls C hw ret hl
  obtain ⟨hx, hb, hml, hown, hB, -⟩ := id C
  have hl : lv_has ls 2 [(0, .ref (g.2.2.1 0)), (1, .int a1)] := hl
  unfold fX10_count at hf
  refine lv_iload_n hx hb dX10_count_0 rfl (lv_at hl 1 rfl) ?_
  by_cases q_1 : a1 = (0 : Int32)
  · have hf := x_iP hf q_1
    refine lv_tableIn (off := 55) (tgt := 56) hx hb dX10_count_1 (by rw [q_1]; decide) (by rw [q_1]; decide) (by rw [q_1]; rfl) (by decide) ?_
    refine lv_aload_n hx hb dX10_count_56 rfl (lv_at hl 0 rfl) ?_
    refine fg_X10_10 (k2 := 1) C hw ic0_0 rfl dX10_count_57 ?_
    refine fg_X10_62 C hw ic0_1 dX10_count_60 ?_
    exact ret hf dX10_count_63 hw
  have hf := x_iN hf q_1
  by_cases q_2 : a1 = (1 : Int32)
  · have hf := x_iP hf q_2
    refine lv_tableIn (off := 63) (tgt := 64) hx hb dX10_count_1 (by rw [q_2]; decide) (by rw [q_2]; decide) (by rw [q_2]; rfl) (by decide) ?_
    refine lv_aload_n hx hb dX10_count_64 rfl (lv_at hl 0 rfl) ?_
    refine fg_X10_10 (k2 := 1) C hw ic0_0 rfl dX10_count_65 ?_
    refine fg_X10_96 C hw ic0_1 dX10_count_68 ?_
    exact ret hf dX10_count_71 hw
  have hf := x_iN hf q_2
  by_cases q_3 : a1 = (2 : Int32)
  · have hf := x_iP hf q_3
    refine lv_tableIn (off := 71) (tgt := 72) hx hb dX10_count_1 (by rw [q_3]; decide) (by rw [q_3]; decide) (by rw [q_3]; rfl) (by decide) ?_
    refine lv_aload_n hx hb dX10_count_72 rfl (lv_at hl 0 rfl) ?_
    refine fg_X10_10 (k2 := 1) C hw ic0_0 rfl dX10_count_73 ?_
    refine fg_X10_131 C hw ic0_1 dX10_count_76 ?_
    exact ret hf dX10_count_79 hw
  have hf := x_iN hf q_3
  by_cases q_4 : a1 = (3 : Int32)
  · have hf := x_iP hf q_4
    refine lv_tableIn (off := 79) (tgt := 80) hx hb dX10_count_1 (by rw [q_4]; decide) (by rw [q_4]; decide) (by rw [q_4]; rfl) (by decide) ?_
    refine lv_aload_n hx hb dX10_count_80 rfl (lv_at hl 0 rfl) ?_
    refine fg_X10_10 (k2 := 1) C hw ic0_0 rfl dX10_count_81 ?_
    refine fg_X10_217 C hw ic0_1 dX10_count_84 ?_
    exact ret hf dX10_count_87 hw
  have hf := x_iN hf q_4
  by_cases q_5 : a1 = (4 : Int32)
  · have hf := x_iP hf q_5
    refine lv_tableIn (off := 87) (tgt := 88) hx hb dX10_count_1 (by rw [q_5]; decide) (by rw [q_5]; decide) (by rw [q_5]; rfl) (by decide) ?_
    refine lv_aload_n hx hb dX10_count_88 rfl (lv_at hl 0 rfl) ?_
    refine fg_X10_10 (k2 := 1) C hw ic0_0 rfl dX10_count_89 ?_
    obtain ⟨tv_8, tM_6, c_7, hf⟩ := x_bE hf
    refine x_vI C hw hl.1 [] [] (mX8_couples l g c_7) lk_X10_346 ic0_1 (by decide) rfl (by decide) rfl (Nat.le_of_ble_eq_true rfl) ⟨Nat.zero_le _, Nat.zero_le _⟩ dX10_count_92 (fun v_8 M_6 H locs hN hw => ?_)
    obtain ⟨rfl, rfl⟩ := hN
    exact ret hf dX10_count_95 hw
  have hf := x_iN hf q_5
  by_cases q_9 : a1 = (5 : Int32)
  · have hf := x_iP hf q_9
    refine lv_tableIn (off := 95) (tgt := 96) hx hb dX10_count_1 (by rw [q_9]; decide) (by rw [q_9]; decide) (by rw [q_9]; rfl) (by decide) ?_
    refine lv_aload_n hx hb dX10_count_96 rfl (lv_at hl 0 rfl) ?_
    refine fg_X10_10 (k2 := 1) C hw ic0_0 rfl dX10_count_97 ?_
    obtain ⟨tv_12, tM_10, c_11, hf⟩ := x_bE hf
    refine x_vI C hw hl.1 [] [] (mX8_openDeeds l g c_11) lk_X10_349 ic0_1 (by decide) rfl (by decide) rfl (Nat.le_of_ble_eq_true rfl) ⟨Nat.zero_le _, Nat.zero_le _⟩ dX10_count_100 (fun v_12 M_10 H locs hN hw => ?_)
    obtain ⟨rfl, rfl⟩ := hN
    exact ret hf dX10_count_103 hw
  have hf := x_iN hf q_9
  by_cases q_13 : a1 = (6 : Int32)
  · have hf := x_iP hf q_13
    refine lv_tableIn (off := 103) (tgt := 104) hx hb dX10_count_1 (by rw [q_13]; decide) (by rw [q_13]; decide) (by rw [q_13]; rfl) (by decide) ?_
    refine lv_aload_n hx hb dX10_count_104 rfl (lv_at hl 0 rfl) ?_
    refine fg_X10_41 C hw ic0_0 dX10_count_105 ?_
    exact ret hf dX10_count_108 hw
  have hf := x_iN hf q_13
  by_cases q_14 : a1 = (7 : Int32)
  · have hf := x_iP hf q_14
    refine lv_tableIn (off := 108) (tgt := 109) hx hb dX10_count_1 (by rw [q_14]; decide) (by rw [q_14]; decide) (by rw [q_14]; rfl) (by decide) ?_
    refine lv_aload_n hx hb dX10_count_109 rfl (lv_at hl 0 rfl) ?_
    refine fg_X10_26 (k2 := 3) C hw ic0_0 rfl dX10_count_110 ?_
    refine fg_X10_173 (k2 := 11) C hw ic0_3 rfl dX10_count_113 ?_
    refine fg_X10_177 C hw ic0_11 dX10_count_116 ?_
    exact ret hf dX10_count_119 hw
  have hf := x_iN hf q_14
  by_cases q_15 : a1 = (8 : Int32)
  · have hf := x_iP hf q_15
    refine lv_tableIn (off := 119) (tgt := 120) hx hb dX10_count_1 (by rw [q_15]; decide) (by rw [q_15]; decide) (by rw [q_15]; rfl) (by decide) ?_
    refine lv_aload_n hx hb dX10_count_120 rfl (lv_at hl 0 rfl) ?_
    refine fg_X10_10 (k2 := 1) C hw ic0_0 rfl dX10_count_121 ?_
    refine fg_X10_108 C hw ic0_1 dX10_count_124 ?_
    exact ret hf dX10_count_127 hw
  have hf := x_iN hf q_15
  by_cases q_16 : a1 = (9 : Int32)
  · have hf := x_iP hf q_16
    refine lv_tableIn (off := 127) (tgt := 128) hx hb dX10_count_1 (by rw [q_16]; decide) (by rw [q_16]; decide) (by rw [q_16]; rfl) (by decide) ?_
    refine lv_aload_n hx hb dX10_count_128 rfl (lv_at hl 0 rfl) ?_
    refine fg_X10_10 (k2 := 1) C hw ic0_0 rfl dX10_count_129 ?_
    obtain ⟨tv_19, tM_17, c_18, hf⟩ := x_bE hf
    refine x_vI C hw hl.1 [] [] (mX8_allCustody l g c_18) lk_X10_352 ic0_1 (by decide) rfl (by decide) rfl (Nat.le_of_ble_eq_true rfl) ⟨Nat.zero_le _, Nat.zero_le _⟩ dX10_count_132 (fun v_19 M_17 H locs hN hw => ?_)
    obtain ⟨rfl, rfl⟩ := hN
    exact ret hf dX10_count_135 hw
  have hf := x_iN hf q_16
  have tq_1 := lv_neT (a := 0) q_1 rfl
  have tq_2 := lv_neT (a := 1) q_2 rfl
  have tq_3 := lv_neT (a := 2) q_3 rfl
  have tq_4 := lv_neT (a := 3) q_4 rfl
  have tq_5 := lv_neT (a := 4) q_5 rfl
  have tq_9 := lv_neT (a := 5) q_9 rfl
  have tq_13 := lv_neT (a := 6) q_13 rfl
  have tq_14 := lv_neT (a := 7) q_14 rfl
  have tq_15 := lv_neT (a := 8) q_15 rfl
  have tq_16 := lv_neT (a := 9) q_16 rfl
  refine lv_tableOut (tgt := 136) hx hb dX10_count_1 (by omega) (by decide) ?_
  refine lv_ldc hx hb hown (hB _ mk_X10_61) dX10_count_136 ?_
  exact ret hf dX10_count_138 hw
