def fX11_copy_L130 (k0 : Nat) (a3 : Int32) (a4 : Int32) (a5 : Int32) : Nat → xM → Int32 → Option (Int32 × xM)
  | 0, _, _ => none
  | n_25 + 1, M_24, x6_23 => if a5 ≤ x6_23 then (some (a5, M_24)) else (x_g x6_23 (xn 1 (xr 1 k0 30)) (x_g ((((24 : Int32) * a3) + a4) + x6_23) (xn 1 (xr 1 k0 28)) (x_l (x_up M_24 (xr 1 k0 28) ((((24 : Int32) * a3) + a4) + x6_23).toNatClampNeg (M_24 (xr 1 k0 30) x6_23.toNatClampNeg)) fun M_32 => x_l (x6_23 + (1 : Int32)) fun x6_33 => fX11_copy_L130 k0 a3 a4 a5 n_25 M_32 x6_33)))
def fX11_copy_L93 (k0 : Nat) (a1 : Int32) (a2 : Int32) (a5 : Int32) (k127_21 : xM → Option (Int32 × xM)) : Nat → xM → Int32 → Option (Int32 × xM)
  | 0, _, _ => none
  | n_37 + 1, M_36, x6_35 => if a5 ≤ x6_35 then (k127_21 M_36) else (x_g ((((24 : Int32) * a1) + a2) + x6_35) (xn 1 (xr 1 k0 28)) (x_g x6_35 (xn 1 (xr 1 k0 30)) (x_l (x_up M_36 (xr 1 k0 30) x6_35.toNatClampNeg (M_36 (xr 1 k0 28) ((((24 : Int32) * a1) + a2) + x6_35).toNatClampNeg)) fun M_44 => x_l (x6_35 + (1 : Int32)) fun x6_45 => fX11_copy_L93 k0 a1 a2 a5 k127_21 n_37 M_44 x6_45)))
def fX11_copy (M : xM) (k0 : Nat) (a1 : Int32) (a2 : Int32) (a3 : Int32) (a4 : Int32) (a5 : Int32) : Option (Int32 × xM) := x_b (fX11_in M a1 (0 : Int32) (1 : Int32)) fun v_3 M_1 => if v_3 = 0 then (some ((-1000000001 : Int32), M_1)) else (x_b (fX11_in M_1 a3 (0 : Int32) (1 : Int32)) fun v_7 M_5 => if v_7 = 0 then (some ((-1000000001 : Int32), M_5)) else (x_g a1 (xn 1 (xr 1 k0 29)) (if (M_5 (xr 1 k0 29) a1.toNatClampNeg) = (-1 : Int32) then (some ((-1000000011 : Int32), M_5)) else (x_g a3 (xn 1 (xr 1 k0 29)) (if (M_5 (xr 1 k0 29) a3.toNatClampNeg) = (-1 : Int32) then (some ((-1000000011 : Int32), M_5)) else (if a2 < 0 then (some ((-1000000013 : Int32), M_5)) else (if a4 < 0 then (some ((-1000000013 : Int32), M_5)) else (if a5 < 0 then (some ((-1000000013 : Int32), M_5)) else (x_g a1 (xn 1 (xr 1 k0 29)) (if ((M_5 (xr 1 k0 29) a1.toNatClampNeg) - a5) < a2 then (some ((-1000000013 : Int32), M_5)) else (x_g a3 (xn 1 (xr 1 k0 29)) (if a4 ≤ ((M_5 (xr 1 k0 29) a3.toNatClampNeg) - a5) then (x_l (fun (M_22 : xM) => fX11_copy_L130 k0 a3 a4 a5 x_FU M_22 (0 : Int32)) fun k127_21 => fX11_copy_L93 k0 a1 a2 a5 k127_21 x_FU M_5 (0 : Int32)) else (some ((-1000000013 : Int32), M_5))))))))))))))
set_option maxRecDepth 100000 in
set_option maxHeartbeats 4000000 in
theorem mX11_copy (l : Launch) (g : xG) {k0 : Nat} {a1 : Int32} {a2 : Int32} {a3 : Int32} {a4 : Int32} {a5 : Int32} {r : Int32} {M' : xM} (h0 : x_is 1 k0 11) {M : xM} (hf : fX11_copy M k0 a1 a2 a3 a4 a5 = some (r, M')) : x_cI l g 1 yX11_copy cX11_copy 7 .int 1 22 [.ref (g.2.2.1 k0), .int a1, .int a2, .int a3, .int a4, .int a5] M (fun v N => v = r ∧ N = M') := by
  refine x_stI RX11 (by decide) rfl (Nat.le_of_ble_eq_true rfl) ?_
  intro p e s m args below meth c Q ls C hw ret hl
  obtain ⟨hx, hb, hml, hown, hB, -⟩ := id C
  have hl : lv_has ls 7 [(0, .ref (g.2.2.1 k0)), (1, .int a1), (2, .int a2), (3, .int a3), (4, .int a4), (5, .int a5)] := hl
  unfold fX11_copy at hf
  refine lv_iload_n hx hb dX11_copy_0 rfl (lv_at hl 1 rfl) ?_
  refine lv_iconst (v := (0 : Int32)) hx hb dX11_copy_1 (by decide) ?_
  refine lv_iconst (v := (1 : Int32)) hx hb dX11_copy_2 (by decide) ?_
  obtain ⟨tv_3, tM_1, c_2, hf⟩ := x_bE hf
  refine x_sI C hw hl.1 [.int a1, .int (0 : Int32), .int (1 : Int32)] [] (mX11_in l g c_2) lk_X11_56 (by decide) rfl (Nat.le_of_ble_eq_true rfl) ⟨Nat.zero_le _, Nat.zero_le _⟩ dX11_copy_3 (fun v_3 M_1 H locs hN hw => ?_)
  obtain ⟨rfl, rfl⟩ := hN
  refine lv_if_eq (tgt := 18) hx hb dX11_copy_6 (by decide) (fun q_4 => ?_) (fun q_4 => ?_)
  · have hf := x_iP hf q_4
    refine lv_ldc hx hb hown (hB _ mk_X11_60) dX11_copy_18 ?_
    exact ret hf dX11_copy_20 hw
  · have hf := x_iN hf q_4
    refine lv_iload_n hx hb dX11_copy_9 rfl (lv_at hl 3 rfl) ?_
    refine lv_iconst (v := (0 : Int32)) hx hb dX11_copy_10 (by decide) ?_
    refine lv_iconst (v := (1 : Int32)) hx hb dX11_copy_11 (by decide) ?_
    obtain ⟨tv_7, tM_5, c_6, hf⟩ := x_bE hf
    refine x_sI C hw hl.1 [.int a3, .int (0 : Int32), .int (1 : Int32)] [] (mX11_in l g c_6) lk_X11_56 (by decide) rfl (Nat.le_of_ble_eq_true rfl) ⟨Nat.zero_le _, Nat.zero_le _⟩ dX11_copy_12 (fun v_7 M_5 H locs hN hw => ?_)
    obtain ⟨rfl, rfl⟩ := hN
    refine lv_if_ne (tgt := 21) hx hb dX11_copy_15 (by decide) (fun q_8 => ?_) (fun q_8 => ?_)
    · have hf := x_iN hf q_8
      refine lv_aload_n hx hb dX11_copy_21 rfl (lv_at hl 0 rfl) ?_
      refine fg_X11_49 C hw h0 dX11_copy_22 ?_
      have h_9 : x_is 1 (xr 1 k0 29) 12 := x_tm h0 (by decide) rfl
      refine lv_iload_n hx hb dX11_copy_25 rfl (lv_at hl 1 rfl) ?_
      obtain ⟨q_10, hf⟩ := x_gE hf
      refine x_ald C hw h_9 q_10 dX11_copy_26 ?_
      refine lv_iconst (v := (-1 : Int32)) hx hb dX11_copy_27 (by decide) ?_
      refine lv_icmp_eq (tgt := 41) hx hb dX11_copy_28 (by decide) (fun q_11 => ?_) (fun q_11 => ?_)
      · have hf := x_iP hf q_11
        refine lv_ldcw hx hb hown (hB _ mk_X11_272) dX11_copy_41 ?_
        exact ret hf dX11_copy_44 hw
      · have hf := x_iN hf q_11
        refine lv_aload_n hx hb dX11_copy_31 rfl (lv_at hl 0 rfl) ?_
        refine fg_X11_49 C hw h0 dX11_copy_32 ?_
        refine lv_iload_n hx hb dX11_copy_35 rfl (lv_at hl 3 rfl) ?_
        obtain ⟨q_12, hf⟩ := x_gE hf
        refine x_ald C hw h_9 q_12 dX11_copy_36 ?_
        refine lv_iconst (v := (-1 : Int32)) hx hb dX11_copy_37 (by decide) ?_
        refine lv_icmp_ne (tgt := 45) hx hb dX11_copy_38 (by decide) (fun q_13 => ?_) (fun q_13 => ?_)
        · have hf := x_iN hf q_13
          refine lv_iload_n hx hb dX11_copy_45 rfl (lv_at hl 2 rfl) ?_
          refine lv_if_lt (tgt := 86) hx hb dX11_copy_46 (by decide) (fun q_14 => ?_) (fun q_14 => ?_)
          · have hf := x_iP hf q_14
            refine lv_ldcw hx hb hown (hB _ mk_X11_279) dX11_copy_86 ?_
            exact ret hf dX11_copy_89 hw
          · have hf := x_iN hf q_14
            refine lv_iload hx hb dX11_copy_49 (lv_at hl 4 rfl) ?_
            refine lv_if_lt (tgt := 86) hx hb dX11_copy_51 (by decide) (fun q_15 => ?_) (fun q_15 => ?_)
            · have hf := x_iP hf q_15
              refine lv_ldcw hx hb hown (hB _ mk_X11_279) dX11_copy_86 ?_
              exact ret hf dX11_copy_89 hw
            · have hf := x_iN hf q_15
              refine lv_iload hx hb dX11_copy_54 (lv_at hl 5 rfl) ?_
              refine lv_if_lt (tgt := 86) hx hb dX11_copy_56 (by decide) (fun q_16 => ?_) (fun q_16 => ?_)
              · have hf := x_iP hf q_16
                refine lv_ldcw hx hb hown (hB _ mk_X11_279) dX11_copy_86 ?_
                exact ret hf dX11_copy_89 hw
              · have hf := x_iN hf q_16
                refine lv_iload_n hx hb dX11_copy_59 rfl (lv_at hl 2 rfl) ?_
                refine lv_aload_n hx hb dX11_copy_60 rfl (lv_at hl 0 rfl) ?_
                refine fg_X11_49 C hw h0 dX11_copy_61 ?_
                refine lv_iload_n hx hb dX11_copy_64 rfl (lv_at hl 1 rfl) ?_
                obtain ⟨q_17, hf⟩ := x_gE hf
                refine x_ald C hw h_9 q_17 dX11_copy_65 ?_
                refine lv_iload hx hb dX11_copy_66 (lv_at hl 5 rfl) ?_
                refine lv_isub hx hb dX11_copy_68 ?_
                refine lv_icmp_gt (tgt := 86) hx hb dX11_copy_69 (by decide) (fun q_18 => ?_) (fun q_18 => ?_)
                · have hf := x_iP hf q_18
                  refine lv_ldcw hx hb hown (hB _ mk_X11_279) dX11_copy_86 ?_
                  exact ret hf dX11_copy_89 hw
                · have hf := x_iN hf q_18
                  refine lv_iload hx hb dX11_copy_72 (lv_at hl 4 rfl) ?_
                  refine lv_aload_n hx hb dX11_copy_74 rfl (lv_at hl 0 rfl) ?_
                  refine fg_X11_49 C hw h0 dX11_copy_75 ?_
                  refine lv_iload_n hx hb dX11_copy_78 rfl (lv_at hl 3 rfl) ?_
                  obtain ⟨q_19, hf⟩ := x_gE hf
                  refine x_ald C hw h_9 q_19 dX11_copy_79 ?_
                  refine lv_iload hx hb dX11_copy_80 (lv_at hl 5 rfl) ?_
                  refine lv_isub hx hb dX11_copy_82 ?_
                  refine lv_icmp_le (tgt := 90) hx hb dX11_copy_83 (by decide) (fun q_20 => ?_) (fun q_20 => ?_)
                  · have hf := x_iP hf q_20
                    refine lv_iconst (v := (0 : Int32)) hx hb dX11_copy_90 (by decide) ?_
                    refine lv_istore (lv' := [(6, .int (0 : Int32)), (0, .ref (g.2.2.1 k0)), (1, .int a1), (2, .int a2), (3, .int a3), (4, .int a4), (5, .int a5)]) hx hb dX11_copy_91 hl (by decide) rfl (fun ls hl => ?_)
                    obtain ⟨k127_21, ek127_21, hf⟩ := x_jE hf
                    have hk127_21 : ∀ (H : Heap) (locs : List Loc) (M_22 : xM)  (ls : Array Slot) , lv_has ls 7 [(0, .ref (g.2.2.1 k0)), (3, .int a3), (4, .int a4), (5, .int a5)] → x_w g 1 s H locs M_22 → k127_21 M_22 = some (r, M') → W p l e (x_rm 1 22) s m args below meth c H locs 0 0 Q (F0 m 127 ls []) := by
                      intro H locs M_22  ls  hl hw hf
                      rw [ek127_21] at hf
                      refine lv_iconst (v := (0 : Int32)) hx hb dX11_copy_127 (by decide) ?_
                      refine lv_istore (lv' := [(6, .int (0 : Int32)), (0, .ref (g.2.2.1 k0)), (3, .int a3), (4, .int a4), (5, .int a5)]) hx hb dX11_copy_128 hl (by decide) rfl (fun ls hl => ?_)
                      have hL_34 : ∀ (n_25 : Nat) (H : Heap) (locs : List Loc) (M_24 : xM) (x6_23 : Int32) (ls : Array Slot) , lv_has ls 7 [(0, .ref (g.2.2.1 k0)), (3, .int a3), (4, .int a4), (5, .int a5), (6, .int x6_23)] → x_w g 1 s H locs M_24 → fX11_copy_L130 k0 a3 a4 a5 n_25 M_24 x6_23 = some (r, M') → W p l e (x_rm 1 22) s m args below meth c H locs 0 0 Q (F0 m 130 ls []) := by
                        intro n_25
                        induction n_25 with
                        | zero =>
                          intro H locs M_24 x6_23 ls  hl hw hf
                          rw [fX11_copy_L130] at hf
                          cases hf
                        | succ n_25 ih_26 =>
                          intro H locs M_24 x6_23 ls  hl hw hf
                          rw [fX11_copy_L130] at hf
                          refine lv_iload hx hb dX11_copy_130 (lv_at hl 4 rfl) ?_
                          refine lv_iload hx hb dX11_copy_132 (lv_at hl 3 rfl) ?_
                          refine lv_icmp_ge (tgt := 165) hx hb dX11_copy_134 (by decide) (fun q_27 => ?_) (fun q_27 => ?_)
                          · have hf := x_iP hf q_27
                            refine lv_iload hx hb dX11_copy_165 (lv_at hl 3 rfl) ?_
                            exact ret hf dX11_copy_167 hw
                          · have hf := x_iN hf q_27
                            refine lv_aload_n hx hb dX11_copy_137 rfl (lv_at hl 0 rfl) ?_
                            refine fg_X11_46 C hw h0 dX11_copy_138 ?_
                            have h_28 : x_is 1 (xr 1 k0 28) 12 := x_tm h0 (by decide) rfl
                            refine lv_bipush (v := (24 : Int32)) hx hb dX11_copy_141 (by decide) ?_
                            refine lv_iload_n hx hb dX11_copy_143 rfl (lv_at hl 1 rfl) ?_
                            refine lv_imul hx hb dX11_copy_144 ?_
                            refine lv_iload hx hb dX11_copy_145 (lv_at hl 2 rfl) ?_
                            refine lv_iadd hx hb dX11_copy_147 ?_
                            refine lv_iload hx hb dX11_copy_148 (lv_at hl 4 rfl) ?_
                            refine lv_iadd hx hb dX11_copy_150 ?_
                            refine lv_aload_n hx hb dX11_copy_151 rfl (lv_at hl 0 rfl) ?_
                            refine fg_X11_52 C hw h0 dX11_copy_152 ?_
                            have h_29 : x_is 1 (xr 1 k0 30) 12 := x_tm h0 (by decide) rfl
                            refine lv_iload hx hb dX11_copy_155 (lv_at hl 4 rfl) ?_
                            obtain ⟨q_30, hf⟩ := x_gE hf
                            refine x_ald C hw h_29 q_30 dX11_copy_157 ?_
                            obtain ⟨q_31, hf⟩ := x_gE hf
                            refine x_ast C hw h_28 q_31 dX11_copy_158 (fun H locs hw => ?_)
                            obtain ⟨M_32, eM_32⟩ : ∃ z, z = (x_up M_24 (xr 1 k0 28) ((((24 : Int32) * a3) + a4) + x6_23).toNatClampNeg (M_24 (xr 1 k0 30) x6_23.toNatClampNeg)) := ⟨_, rfl⟩
                            rw [← eM_32] at hw
                            have hf := x_lE eM_32 hf
                            obtain ⟨x6_33, ex6_33⟩ : ∃ z : Int32, z = (x6_23 + (1 : Int32)) := ⟨_, rfl⟩
                            have hf := x_lE ex6_33 hf
                            refine lv_iinc (v := x6_33) (lv' := [(6, .int x6_33), (0, .ref (g.2.2.1 k0)), (3, .int a3), (4, .int a4), (5, .int a5)]) hx hb dX11_copy_159 hl (k := 4) rfl (by rw [ex6_33]; rfl) (by decide) rfl (fun ls hl => ?_)
                            refine lv_goto (tgt := 130) hx hb dX11_copy_162 (by decide) ?_
                            exact ih_26 _ _ _ _ _ (lv_sub hl [1, 2, 3, 4, 0] rfl) hw hf
                      exact hL_34 _ _ _ _ _ _ (lv_sub hl [1, 2, 3, 4, 0] rfl) hw hf
                    have hL_46 : ∀ (n_37 : Nat) (H : Heap) (locs : List Loc) (M_36 : xM) (x6_35 : Int32) (ls : Array Slot) , lv_has ls 7 [(0, .ref (g.2.2.1 k0)), (1, .int a1), (2, .int a2), (3, .int a3), (4, .int a4), (5, .int a5), (6, .int x6_35)] → x_w g 1 s H locs M_36 → fX11_copy_L93 k0 a1 a2 a5 k127_21 n_37 M_36 x6_35 = some (r, M') → W p l e (x_rm 1 22) s m args below meth c H locs 0 0 Q (F0 m 93 ls []) := by
                      intro n_37
                      induction n_37 with
                      | zero =>
                        intro H locs M_36 x6_35 ls  hl hw hf
                        rw [fX11_copy_L93] at hf
                        cases hf
                      | succ n_37 ih_38 =>
                        intro H locs M_36 x6_35 ls  hl hw hf
                        rw [fX11_copy_L93] at hf
                        refine lv_iload hx hb dX11_copy_93 (lv_at hl 6 rfl) ?_
                        refine lv_iload hx hb dX11_copy_95 (lv_at hl 5 rfl) ?_
                        refine lv_icmp_ge (tgt := 127) hx hb dX11_copy_97 (by decide) (fun q_39 => ?_) (fun q_39 => ?_)
                        · have hf := x_iP hf q_39
                          exact hk127_21 _ _ _ _ (lv_sub hl [0, 3, 4, 5] rfl) hw hf
                        · have hf := x_iN hf q_39
                          refine lv_aload_n hx hb dX11_copy_100 rfl (lv_at hl 0 rfl) ?_
                          refine fg_X11_52 C hw h0 dX11_copy_101 ?_
                          have h_40 : x_is 1 (xr 1 k0 30) 12 := x_tm h0 (by decide) rfl
                          refine lv_iload hx hb dX11_copy_104 (lv_at hl 6 rfl) ?_
                          refine lv_aload_n hx hb dX11_copy_106 rfl (lv_at hl 0 rfl) ?_
                          refine fg_X11_46 C hw h0 dX11_copy_107 ?_
                          have h_41 : x_is 1 (xr 1 k0 28) 12 := x_tm h0 (by decide) rfl
                          refine lv_bipush (v := (24 : Int32)) hx hb dX11_copy_110 (by decide) ?_
                          refine lv_iload_n hx hb dX11_copy_112 rfl (lv_at hl 1 rfl) ?_
                          refine lv_imul hx hb dX11_copy_113 ?_
                          refine lv_iload_n hx hb dX11_copy_114 rfl (lv_at hl 2 rfl) ?_
                          refine lv_iadd hx hb dX11_copy_115 ?_
                          refine lv_iload hx hb dX11_copy_116 (lv_at hl 6 rfl) ?_
                          refine lv_iadd hx hb dX11_copy_118 ?_
                          obtain ⟨q_42, hf⟩ := x_gE hf
                          refine x_ald C hw h_41 q_42 dX11_copy_119 ?_
                          obtain ⟨q_43, hf⟩ := x_gE hf
                          refine x_ast C hw h_40 q_43 dX11_copy_120 (fun H locs hw => ?_)
                          obtain ⟨M_44, eM_44⟩ : ∃ z, z = (x_up M_36 (xr 1 k0 30) x6_35.toNatClampNeg (M_36 (xr 1 k0 28) ((((24 : Int32) * a1) + a2) + x6_35).toNatClampNeg)) := ⟨_, rfl⟩
                          rw [← eM_44] at hw
                          have hf := x_lE eM_44 hf
                          obtain ⟨x6_45, ex6_45⟩ : ∃ z : Int32, z = (x6_35 + (1 : Int32)) := ⟨_, rfl⟩
                          have hf := x_lE ex6_45 hf
                          refine lv_iinc (v := x6_45) (lv' := [(6, .int x6_45), (0, .ref (g.2.2.1 k0)), (1, .int a1), (2, .int a2), (3, .int a3), (4, .int a4), (5, .int a5)]) hx hb dX11_copy_121 hl (k := 6) rfl (by rw [ex6_45]; rfl) (by decide) rfl (fun ls hl => ?_)
                          refine lv_goto (tgt := 93) hx hb dX11_copy_124 (by decide) ?_
                          exact ih_38 _ _ _ _ _ (lv_sub hl [1, 2, 3, 4, 5, 6, 0] rfl) hw hf
                    exact hL_46 _ _ _ _ _ _ (lv_sub hl [1, 2, 3, 4, 5, 6, 0] rfl) hw hf
                  · have hf := x_iN hf q_20
                    refine lv_ldcw hx hb hown (hB _ mk_X11_279) dX11_copy_86 ?_
                    exact ret hf dX11_copy_89 hw
        · have hf := x_iP hf q_13
          refine lv_ldcw hx hb hown (hB _ mk_X11_272) dX11_copy_41 ?_
          exact ret hf dX11_copy_44 hw
    · have hf := x_iP hf q_8
      refine lv_ldc hx hb hown (hB _ mk_X11_60) dX11_copy_18 ?_
      exact ret hf dX11_copy_20 hw
def fX11_count_L90 (k0 : Nat) : Nat → xM → Int32 → Int32 → Option (Int32 × xM)
  | 0, _, _, _ => none
  | n_17 + 1, M_16, x2_14, x3_15 => x_g (17 : Int32) (xn 1 (xr 1 k0 0)) (if (M_16 (xr 1 k0 0) (17 : Int32).toNatClampNeg) ≤ x3_15 then (some (x2_14, M_16)) else (x_g (((30 : Int32) + ((3 : Int32) * x3_15)) + (1 : Int32)) (xn 1 (xr 1 k0 0)) (x_l (fun (M_25 : xM) (z_23 : Int32) => x_l (x2_14 + z_23) fun x2_26 => x_l (x3_15 + (1 : Int32)) fun x3_27 => fX11_count_L90 k0 n_17 M_25 x2_26 x3_27) fun k124_24 => if (M_16 (xr 1 k0 0) (((30 : Int32) + ((3 : Int32) * x3_15)) + (1 : Int32)).toNatClampNeg) ≤ x3_15 then (k124_24 M_16 (0 : Int32)) else (k124_24 M_16 (1 : Int32)))))
def fX11_count_L160 (k0 : Nat) : Nat → xM → Int32 → Int32 → Option (Int32 × xM)
  | 0, _, _, _ => none
  | n_43 + 1, M_42, x2_40, x3_41 => x_g (17 : Int32) (xn 1 (xr 1 k0 0)) (if (M_42 (xr 1 k0 0) (17 : Int32).toNatClampNeg) ≤ x3_41 then (some (x2_40, M_42)) else (x_g (((30 : Int32) + ((3 : Int32) * x3_41)) + (2 : Int32)) (xn 1 (xr 1 k0 0)) (x_l (x2_40 + (M_42 (xr 1 k0 0) (((30 : Int32) + ((3 : Int32) * x3_41)) + (2 : Int32)).toNatClampNeg)) fun x2_49 => x_l (x3_41 + (1 : Int32)) fun x3_50 => fX11_count_L160 k0 n_43 M_42 x2_49 x3_50)))
def fX11_count (M : xM) (k0 : Nat) (a1 : Int32) : Option (Int32 × xM) := if a1 = (0 : Int32) then (x_g (17 : Int32) (xn 1 (xr 1 k0 0)) (some ((M (xr 1 k0 0) (17 : Int32).toNatClampNeg), M))) else (if a1 = (1 : Int32) then (x_g (18 : Int32) (xn 1 (xr 1 k0 0)) (some ((M (xr 1 k0 0) (18 : Int32).toNatClampNeg), M))) else (if a1 = (2 : Int32) then (x_g (19 : Int32) (xn 1 (xr 1 k0 0)) (some ((M (xr 1 k0 0) (19 : Int32).toNatClampNeg), M))) else (if a1 = (3 : Int32) then (x_g (20 : Int32) (xn 1 (xr 1 k0 0)) (some ((M (xr 1 k0 0) (20 : Int32).toNatClampNeg), M))) else (if a1 = (4 : Int32) then (fX11_count_L90 k0 x_FU M (0 : Int32) (0 : Int32)) else (if a1 = (5 : Int32) then (x_b (fX11_deedsOf M k0 (-1 : Int32) (-1 : Int32)) fun v_33 M_31 => some (v_33, M_31)) else (if a1 = (6 : Int32) then (some ((M k0 27), M)) else (if a1 = (7 : Int32) then (some ((M k0 4), M)) else (if a1 = (8 : Int32) then (x_g (0 : Int32) (xn 1 (xr 1 k0 0)) (some ((M (xr 1 k0 0) (0 : Int32).toNatClampNeg), M))) else (if a1 = (9 : Int32) then (fX11_count_L160 k0 x_FU M (0 : Int32) (0 : Int32)) else (some ((-1000000001 : Int32), M)))))))))))
set_option maxRecDepth 100000 in
set_option maxHeartbeats 4000000 in
theorem mX11_count (l : Launch) (g : xG) {k0 : Nat} {a1 : Int32} {r : Int32} {M' : xM} (h0 : x_is 1 k0 11) {M : xM} (hf : fX11_count M k0 a1 = some (r, M')) : x_cI l g 1 yX11_count cX11_count 4 .int 1 24 [.ref (g.2.2.1 k0), .int a1] M (fun v N => v = r ∧ N = M') := by
  refine x_stI RX11 (by decide) rfl (Nat.le_of_ble_eq_true rfl) ?_
  intro p e s m args below meth c Q ls C hw ret hl
  obtain ⟨hx, hb, hml, hown, hB, -⟩ := id C
  have hl : lv_has ls 4 [(0, .ref (g.2.2.1 k0)), (1, .int a1)] := hl
  unfold fX11_count at hf
  refine lv_iconst (v := (0 : Int32)) hx hb dX11_count_0 (by decide) ?_
  refine lv_istore_n (lv' := [(2, .int (0 : Int32)), (0, .ref (g.2.2.1 k0)), (1, .int a1)]) hx hb dX11_count_1 rfl hl (by decide) rfl (fun ls hl => ?_)
  refine lv_iload_n hx hb dX11_count_2 rfl (lv_at hl 2 rfl) ?_
  by_cases q_1 : a1 = (0 : Int32)
  · have hf := x_iP hf q_1
    refine lv_tableIn (off := 53) (tgt := 56) hx hb dX11_count_3 (by rw [q_1]; decide) (by rw [q_1]; decide) (by rw [q_1]; rfl) (by decide) ?_
    refine lv_aload_n hx hb dX11_count_56 rfl (lv_at hl 1 rfl) ?_
    refine fg_X11_7 C hw h0 dX11_count_57 ?_
    have h_2 : x_is 1 (xr 1 k0 0) 12 := x_tm h0 (by decide) rfl
    refine lv_bipush (v := (17 : Int32)) hx hb dX11_count_60 (by decide) ?_
    obtain ⟨q_3, hf⟩ := x_gE hf
    refine x_ald C hw h_2 q_3 dX11_count_62 ?_
    exact ret hf dX11_count_63 hw
  have hf := x_iN hf q_1
  by_cases q_4 : a1 = (1 : Int32)
  · have hf := x_iP hf q_4
    refine lv_tableIn (off := 61) (tgt := 64) hx hb dX11_count_3 (by rw [q_4]; decide) (by rw [q_4]; decide) (by rw [q_4]; rfl) (by decide) ?_
    refine lv_aload_n hx hb dX11_count_64 rfl (lv_at hl 1 rfl) ?_
    refine fg_X11_7 C hw h0 dX11_count_65 ?_
    have h_5 : x_is 1 (xr 1 k0 0) 12 := x_tm h0 (by decide) rfl
    refine lv_bipush (v := (18 : Int32)) hx hb dX11_count_68 (by decide) ?_
    obtain ⟨q_6, hf⟩ := x_gE hf
    refine x_ald C hw h_5 q_6 dX11_count_70 ?_
    exact ret hf dX11_count_71 hw
  have hf := x_iN hf q_4
  by_cases q_7 : a1 = (2 : Int32)
  · have hf := x_iP hf q_7
    refine lv_tableIn (off := 69) (tgt := 72) hx hb dX11_count_3 (by rw [q_7]; decide) (by rw [q_7]; decide) (by rw [q_7]; rfl) (by decide) ?_
    refine lv_aload_n hx hb dX11_count_72 rfl (lv_at hl 1 rfl) ?_
    refine fg_X11_7 C hw h0 dX11_count_73 ?_
    have h_8 : x_is 1 (xr 1 k0 0) 12 := x_tm h0 (by decide) rfl
    refine lv_bipush (v := (19 : Int32)) hx hb dX11_count_76 (by decide) ?_
    obtain ⟨q_9, hf⟩ := x_gE hf
    refine x_ald C hw h_8 q_9 dX11_count_78 ?_
    exact ret hf dX11_count_79 hw
  have hf := x_iN hf q_7
  by_cases q_10 : a1 = (3 : Int32)
  · have hf := x_iP hf q_10
    refine lv_tableIn (off := 77) (tgt := 80) hx hb dX11_count_3 (by rw [q_10]; decide) (by rw [q_10]; decide) (by rw [q_10]; rfl) (by decide) ?_
    refine lv_aload_n hx hb dX11_count_80 rfl (lv_at hl 1 rfl) ?_
    refine fg_X11_7 C hw h0 dX11_count_81 ?_
    have h_11 : x_is 1 (xr 1 k0 0) 12 := x_tm h0 (by decide) rfl
    refine lv_bipush (v := (20 : Int32)) hx hb dX11_count_84 (by decide) ?_
    obtain ⟨q_12, hf⟩ := x_gE hf
    refine x_ald C hw h_11 q_12 dX11_count_86 ?_
    exact ret hf dX11_count_87 hw
  have hf := x_iN hf q_10
  by_cases q_13 : a1 = (4 : Int32)
  · have hf := x_iP hf q_13
    refine lv_tableIn (off := 85) (tgt := 88) hx hb dX11_count_3 (by rw [q_13]; decide) (by rw [q_13]; decide) (by rw [q_13]; rfl) (by decide) ?_
    refine lv_iconst (v := (0 : Int32)) hx hb dX11_count_88 (by decide) ?_
    refine lv_istore_n (lv' := [(3, .int (0 : Int32)), (2, .int (0 : Int32)), (0, .ref (g.2.2.1 k0)), (1, .int a1)]) hx hb dX11_count_89 rfl hl (by decide) rfl (fun ls hl => ?_)
    have hL_29 : ∀ (n_17 : Nat) (H : Heap) (locs : List Loc) (M_16 : xM) (x2_14 : Int32) (x3_15 : Int32) (ls : Array Slot) , lv_has ls 4 [(0, .ref (g.2.2.1 k0)), (2, .int x2_14), (3, .int x3_15)] → x_w g 1 s H locs M_16 → fX11_count_L90 k0 n_17 M_16 x2_14 x3_15 = some (r, M') → W p l e (x_rm 1 24) s m args below meth c H locs 0 0 Q (F0 m 90 ls []) := by
      intro n_17
      induction n_17 with
      | zero =>
        intro H locs M_16 x2_14 x3_15 ls  hl hw hf
        rw [fX11_count_L90] at hf
        cases hf
      | succ n_17 ih_18 =>
        intro H locs M_16 x2_14 x3_15 ls  hl hw hf
        rw [fX11_count_L90] at hf
        refine lv_iload_n hx hb dX11_count_90 rfl (lv_at hl 2 rfl) ?_
        refine lv_aload_n hx hb dX11_count_91 rfl (lv_at hl 0 rfl) ?_
        refine fg_X11_7 C hw h0 dX11_count_92 ?_
        have h_19 : x_is 1 (xr 1 k0 0) 12 := x_tm h0 (by decide) rfl
        refine lv_bipush (v := (17 : Int32)) hx hb dX11_count_95 (by decide) ?_
        obtain ⟨q_20, hf⟩ := x_gE hf
        refine x_ald C hw h_19 q_20 dX11_count_97 ?_
        refine lv_icmp_ge (tgt := 132) hx hb dX11_count_98 (by decide) (fun q_21 => ?_) (fun q_21 => ?_)
        · have hf := x_iP hf q_21
          refine lv_iload_n hx hb dX11_count_132 rfl (lv_at hl 1 rfl) ?_
          exact ret hf dX11_count_133 hw
        · have hf := x_iN hf q_21
          refine lv_iload_n hx hb dX11_count_101 rfl (lv_at hl 1 rfl) ?_
          refine lv_aload_n hx hb dX11_count_102 rfl (lv_at hl 0 rfl) ?_
          refine fg_X11_7 C hw h0 dX11_count_103 ?_
          refine lv_bipush (v := (30 : Int32)) hx hb dX11_count_106 (by decide) ?_
          refine lv_iconst (v := (3 : Int32)) hx hb dX11_count_108 (by decide) ?_
          refine lv_iload_n hx hb dX11_count_109 rfl (lv_at hl 2 rfl) ?_
          refine lv_imul hx hb dX11_count_110 ?_
          refine lv_iadd hx hb dX11_count_111 ?_
          refine lv_iconst (v := (1 : Int32)) hx hb dX11_count_112 (by decide) ?_
          refine lv_iadd hx hb dX11_count_113 ?_
          obtain ⟨q_22, hf⟩ := x_gE hf
          refine x_ald C hw h_19 q_22 dX11_count_114 ?_
          refine lv_iload_n hx hb dX11_count_115 rfl (lv_at hl 2 rfl) ?_
          obtain ⟨k124_24, ek124_24, hf⟩ := x_jE hf
          have hk124_24 : ∀ (H : Heap) (locs : List Loc) (M_25 : xM) (z_23 : Int32) (ls : Array Slot) , lv_has ls 4 [(0, .ref (g.2.2.1 k0)), (3, .int x3_15)] → x_w g 1 s H locs M_25 → k124_24 M_25 z_23 = some (r, M') → W p l e (x_rm 1 24) s m args below meth c H locs 0 0 Q (F0 m 124 ls [.int z_23, .int x2_14]) := by
            intro H locs M_25 z_23 ls  hl hw hf
            rw [ek124_24] at hf
            refine lv_iadd hx hb dX11_count_124 ?_
            refine lv_topi (fun x2_26 ex2_26 => ?_)
            have hf := x_lE ex2_26 hf
            refine lv_istore_n (lv' := [(2, .int x2_26), (0, .ref (g.2.2.1 k0)), (3, .int x3_15)]) hx hb dX11_count_125 rfl hl (by decide) rfl (fun ls hl => ?_)
            obtain ⟨x3_27, ex3_27⟩ : ∃ z : Int32, z = (x3_15 + (1 : Int32)) := ⟨_, rfl⟩
            have hf := x_lE ex3_27 hf
            refine lv_iinc (v := x3_27) (lv' := [(3, .int x3_27), (2, .int x2_26), (0, .ref (g.2.2.1 k0))]) hx hb dX11_count_126 hl (k := 2) rfl (by rw [ex3_27]; rfl) (by decide) rfl (fun ls hl => ?_)
            refine lv_goto (tgt := 90) hx hb dX11_count_129 (by decide) ?_
            exact ih_18 _ _ _ _ _ _ (lv_sub hl [2, 1, 0] rfl) hw hf
          refine lv_icmp_le (tgt := 123) hx hb dX11_count_116 (by decide) (fun q_28 => ?_) (fun q_28 => ?_)
          · have hf := x_iP hf q_28
            refine lv_iconst (v := (0 : Int32)) hx hb dX11_count_123 (by decide) ?_
            exact hk124_24 _ _ _ _ _ (lv_sub hl [0, 2] rfl) hw hf
          · have hf := x_iN hf q_28
            refine lv_iconst (v := (1 : Int32)) hx hb dX11_count_119 (by decide) ?_
            refine lv_goto (tgt := 124) hx hb dX11_count_120 (by decide) ?_
            exact hk124_24 _ _ _ _ _ (lv_sub hl [0, 2] rfl) hw hf
    exact hL_29 _ _ _ _ _ _ _ (lv_sub hl [2, 1, 0] rfl) hw hf
  have hf := x_iN hf q_13
  by_cases q_30 : a1 = (5 : Int32)
  · have hf := x_iP hf q_30
    refine lv_tableIn (off := 131) (tgt := 134) hx hb dX11_count_3 (by rw [q_30]; decide) (by rw [q_30]; decide) (by rw [q_30]; rfl) (by decide) ?_
    refine lv_aload_n hx hb dX11_count_134 rfl (lv_at hl 1 rfl) ?_
    refine lv_iconst (v := (-1 : Int32)) hx hb dX11_count_135 (by decide) ?_
    refine lv_iconst (v := (-1 : Int32)) hx hb dX11_count_136 (by decide) ?_
    obtain ⟨tv_33, tM_31, c_32, hf⟩ := x_bE hf
    refine x_vI C hw hl.1 [.int (-1 : Int32), .int (-1 : Int32)] [] (mX11_deedsOf l g h0 c_32) lk_X11_213 h0 (by decide) rfl (by decide) rfl (Nat.le_of_ble_eq_true rfl) ⟨Nat.zero_le _, Nat.zero_le _⟩ dX11_count_137 (fun v_33 M_31 H locs hN hw => ?_)
    obtain ⟨rfl, rfl⟩ := hN
    exact ret hf dX11_count_140 hw
  have hf := x_iN hf q_30
  by_cases q_34 : a1 = (6 : Int32)
  · have hf := x_iP hf q_34
    refine lv_tableIn (off := 138) (tgt := 141) hx hb dX11_count_3 (by rw [q_34]; decide) (by rw [q_34]; decide) (by rw [q_34]; rfl) (by decide) ?_
    refine lv_aload_n hx hb dX11_count_141 rfl (lv_at hl 1 rfl) ?_
    refine fg_X11_260 C hw h0 dX11_count_142 ?_
    exact ret hf dX11_count_145 hw
  have hf := x_iN hf q_34
  by_cases q_35 : a1 = (7 : Int32)
  · have hf := x_iP hf q_35
    refine lv_tableIn (off := 143) (tgt := 146) hx hb dX11_count_3 (by rw [q_35]; decide) (by rw [q_35]; decide) (by rw [q_35]; rfl) (by decide) ?_
    refine lv_aload_n hx hb dX11_count_146 rfl (lv_at hl 1 rfl) ?_
    refine fg_X11_99 C hw h0 dX11_count_147 ?_
    exact ret hf dX11_count_150 hw
  have hf := x_iN hf q_35
  by_cases q_36 : a1 = (8 : Int32)
  · have hf := x_iP hf q_36
    refine lv_tableIn (off := 148) (tgt := 151) hx hb dX11_count_3 (by rw [q_36]; decide) (by rw [q_36]; decide) (by rw [q_36]; rfl) (by decide) ?_
    refine lv_aload_n hx hb dX11_count_151 rfl (lv_at hl 1 rfl) ?_
    refine fg_X11_7 C hw h0 dX11_count_152 ?_
    have h_37 : x_is 1 (xr 1 k0 0) 12 := x_tm h0 (by decide) rfl
    refine lv_iconst (v := (0 : Int32)) hx hb dX11_count_155 (by decide) ?_
    obtain ⟨q_38, hf⟩ := x_gE hf
    refine x_ald C hw h_37 q_38 dX11_count_156 ?_
    exact ret hf dX11_count_157 hw
  have hf := x_iN hf q_36
  by_cases q_39 : a1 = (9 : Int32)
  · have hf := x_iP hf q_39
    refine lv_tableIn (off := 155) (tgt := 158) hx hb dX11_count_3 (by rw [q_39]; decide) (by rw [q_39]; decide) (by rw [q_39]; rfl) (by decide) ?_
    refine lv_iconst (v := (0 : Int32)) hx hb dX11_count_158 (by decide) ?_
    refine lv_istore_n (lv' := [(3, .int (0 : Int32)), (2, .int (0 : Int32)), (0, .ref (g.2.2.1 k0)), (1, .int a1)]) hx hb dX11_count_159 rfl hl (by decide) rfl (fun ls hl => ?_)
    have hL_51 : ∀ (n_43 : Nat) (H : Heap) (locs : List Loc) (M_42 : xM) (x2_40 : Int32) (x3_41 : Int32) (ls : Array Slot) , lv_has ls 4 [(0, .ref (g.2.2.1 k0)), (2, .int x2_40), (3, .int x3_41)] → x_w g 1 s H locs M_42 → fX11_count_L160 k0 n_43 M_42 x2_40 x3_41 = some (r, M') → W p l e (x_rm 1 24) s m args below meth c H locs 0 0 Q (F0 m 160 ls []) := by
      intro n_43
      induction n_43 with
      | zero =>
        intro H locs M_42 x2_40 x3_41 ls  hl hw hf
        rw [fX11_count_L160] at hf
        cases hf
      | succ n_43 ih_44 =>
        intro H locs M_42 x2_40 x3_41 ls  hl hw hf
        rw [fX11_count_L160] at hf
        refine lv_iload_n hx hb dX11_count_160 rfl (lv_at hl 2 rfl) ?_
        refine lv_aload_n hx hb dX11_count_161 rfl (lv_at hl 0 rfl) ?_
        refine fg_X11_7 C hw h0 dX11_count_162 ?_
        have h_45 : x_is 1 (xr 1 k0 0) 12 := x_tm h0 (by decide) rfl
        refine lv_bipush (v := (17 : Int32)) hx hb dX11_count_165 (by decide) ?_
        obtain ⟨q_46, hf⟩ := x_gE hf
        refine x_ald C hw h_45 q_46 dX11_count_167 ?_
        refine lv_icmp_ge (tgt := 193) hx hb dX11_count_168 (by decide) (fun q_47 => ?_) (fun q_47 => ?_)
        · have hf := x_iP hf q_47
          refine lv_iload_n hx hb dX11_count_193 rfl (lv_at hl 1 rfl) ?_
          exact ret hf dX11_count_194 hw
        · have hf := x_iN hf q_47
          refine lv_iload_n hx hb dX11_count_171 rfl (lv_at hl 1 rfl) ?_
          refine lv_aload_n hx hb dX11_count_172 rfl (lv_at hl 0 rfl) ?_
          refine fg_X11_7 C hw h0 dX11_count_173 ?_
          refine lv_bipush (v := (30 : Int32)) hx hb dX11_count_176 (by decide) ?_
          refine lv_iconst (v := (3 : Int32)) hx hb dX11_count_178 (by decide) ?_
          refine lv_iload_n hx hb dX11_count_179 rfl (lv_at hl 2 rfl) ?_
          refine lv_imul hx hb dX11_count_180 ?_
          refine lv_iadd hx hb dX11_count_181 ?_
          refine lv_iconst (v := (2 : Int32)) hx hb dX11_count_182 (by decide) ?_
          refine lv_iadd hx hb dX11_count_183 ?_
          obtain ⟨q_48, hf⟩ := x_gE hf
          refine x_ald C hw h_45 q_48 dX11_count_184 ?_
          refine lv_iadd hx hb dX11_count_185 ?_
          refine lv_topi (fun x2_49 ex2_49 => ?_)
          have hf := x_lE ex2_49 hf
          refine lv_istore_n (lv' := [(2, .int x2_49), (0, .ref (g.2.2.1 k0)), (3, .int x3_41)]) hx hb dX11_count_186 rfl hl (by decide) rfl (fun ls hl => ?_)
          obtain ⟨x3_50, ex3_50⟩ : ∃ z : Int32, z = (x3_41 + (1 : Int32)) := ⟨_, rfl⟩
          have hf := x_lE ex3_50 hf
          refine lv_iinc (v := x3_50) (lv' := [(3, .int x3_50), (2, .int x2_49), (0, .ref (g.2.2.1 k0))]) hx hb dX11_count_187 hl (k := 2) rfl (by rw [ex3_50]; rfl) (by decide) rfl (fun ls hl => ?_)
          refine lv_goto (tgt := 160) hx hb dX11_count_190 (by decide) ?_
          exact ih_44 _ _ _ _ _ _ (lv_sub hl [2, 1, 0] rfl) hw hf
    exact hL_51 _ _ _ _ _ _ _ (lv_sub hl [2, 1, 0] rfl) hw hf
  have hf := x_iN hf q_39
  have tq_1 := lv_neT (a := 0) q_1 rfl
  have tq_4 := lv_neT (a := 1) q_4 rfl
  have tq_7 := lv_neT (a := 2) q_7 rfl
  have tq_10 := lv_neT (a := 3) q_10 rfl
  have tq_13 := lv_neT (a := 4) q_13 rfl
  have tq_30 := lv_neT (a := 5) q_30 rfl
  have tq_34 := lv_neT (a := 6) q_34 rfl
  have tq_35 := lv_neT (a := 7) q_35 rfl
  have tq_36 := lv_neT (a := 8) q_36 rfl
  have tq_39 := lv_neT (a := 9) q_39 rfl
  refine lv_tableOut (tgt := 195) hx hb dX11_count_3 (by omega) (by decide) ?_
  refine lv_ldc hx hb hown (hB _ mk_X11_60) dX11_count_195 ?_
  exact ret hf dX11_count_197 hw
