theorem q_is {C M : xM} (h : Rel C M) (a b : Int32) : q_Stp (fX10_is C a b) (fX11_is M a b) := by
  obtain ⟨⟨nP, nF, nD, nJ, t, hS, hL, iP, iF, iD, iJ, iR⟩, hR⟩ := id h
  obtain ⟨⟨⟨c0, c1, c2, c3, c4⟩, ⟨s0, s1, s2, s3, s4⟩, ⟨n1, n2, n3, n4, n5⟩⟩, gP, gF, gD, gJ, gR, gL⟩ := id hS
  unfold fX10_is fX11_is
  simp (disch := omega) only [x_l, x_b_some, x_v_some, c_in, p_in, u_if0, p_less, p_more, p_size, p_orNone, c_oneIf, p_isPerson, p_isDeed, p_isJudgment, c_hasPerson, c_hasDeed, c_hasJudgment, x_zl0, x_zl1, x_z_if, c1, s1, l_has (a := a) (n := nP) (by omega)]
  refine q_ite h (fun ⟨i, hi, e⟩ => ?_)
  subst e
  refine q_ite h (fun h2 => ?_)
  have g0 : C (31 + i) 0 = M 1 (30 + 3 * i) := gP i hi 0 (by decide)
  obtain ⟨⟨k, hk, ek⟩, -⟩ := iP i hi
  rw [p_isYoung M (by omega)]
  simp (disch := omega) only [x_l, x_b_some, x_v_some, c_in, p_in, u_if0, p_less, p_more, p_size, p_orNone, c_oneIf, p_isPerson, p_isDeed, p_isJudgment, c_hasPerson, c_hasDeed, c_hasJudgment, x_zl0, x_zl1, x_z_if, u_3, u_6, u_5, u_10, u_1, u_24, u_a1, u_a2, u_a3, u_a4, u_a5, u_a6, u_a7, u_a8, u_m1, u_g, u_c, c_kindP, g0, u_ifs, ek]
  refine q_mk ?_ h
  have := nI_k3 hk
  grind
theorem q_isOf {C M : xM} (h : Rel C M) (a b : Int32) : q_Stp (fX10_isOf C a b) (fX11_isOf M a b) := by
  obtain ⟨⟨nP, nF, nD, nJ, t, hS, hL, iP, iF, iD, iJ, iR⟩, hR⟩ := id h
  obtain ⟨⟨⟨c0, c1, c2, c3, c4⟩, ⟨s0, s1, s2, s3, s4⟩, ⟨n1, n2, n3, n4, n5⟩⟩, gP, gF, gD, gJ, gR, gL⟩ := id hS
  unfold fX10_isOf fX11_isOf
  simp (disch := omega) only [x_l, x_b_some, x_v_some, c_in, p_in, u_if0, p_less, p_more, p_size, p_orNone, c_oneIf, p_isPerson, p_isDeed, p_isJudgment, c_hasPerson, c_hasDeed, c_hasJudgment, x_zl0, x_zl1, x_z_if, c3, s3, l_has (a := a) (n := nD) (by omega)]
  refine q_ite h (fun ⟨i, hi, e⟩ => ?_)
  subst e
  refine q_ite h (fun h2 => ?_)
  have g0 : C (139 + i) 0 = M 1 (642 + 5 * i) := gD i hi 0 (by decide)
  simp (disch := omega) only [x_l, x_b_some, x_v_some, c_in, p_in, u_if0, p_less, p_more, p_size, p_orNone, c_oneIf, p_isPerson, p_isDeed, p_isJudgment, c_hasPerson, c_hasDeed, c_hasJudgment, x_zl0, x_zl1, x_z_if, u_3, u_6, u_5, u_10, u_1, u_24, u_a1, u_a2, u_a3, u_a4, u_a5, u_a6, u_a7, u_a8, u_m1, u_g, u_c, c_kindD, g0, u_ifs]
  refine q_mk ?_ h
  grind
theorem q_days {C M : xM} (h : Rel C M) (a : Int32) : q_Stp (fX10_days C a) (fX11_days M a) := by
  obtain ⟨⟨nP, nF, nD, nJ, t, hS, hL, iP, iF, iD, iJ, iR⟩, hR⟩ := id h
  obtain ⟨⟨⟨c0, c1, c2, c3, c4⟩, ⟨s0, s1, s2, s3, s4⟩, ⟨n1, n2, n3, n4, n5⟩⟩, gP, gF, gD, gJ, gR, gL⟩ := id hS
  unfold fX10_days fX11_days
  simp only [x_l, x_b_some, x_v_some, c_in, p_in, u_if0, p_less, p_more, p_size, p_orNone, c_oneIf, p_isPerson, p_isDeed, p_isJudgment, c_hasPerson, c_hasDeed, c_hasJudgment, x_zl0, x_zl1, x_z_if, c0, s0]
  refine q_ite h (fun h2 => ?_)
  obtain ⟨k, hk, rfl⟩ := u_of (n := 100) (Int32.le_trans (by decide) h2.1) h2.2 (by decide)
  simp (disch := omega) only [nI_add, l_ltn, l_len, l_eqn, l_neg, l_neg', kn0_lt, kn0_le, kn0_eq, kn0_tl, kn0_el, kn0_qe, kn1_lt, kn1_le, kn1_eq, kn1_tl, kn1_el, kn1_qe, kn2_lt, kn2_le, kn2_eq, kn2_tl, kn2_el, kn2_qe, kn3_lt, kn3_le, kn3_eq, kn3_tl, kn3_el, kn3_qe, kn4_lt, kn4_le, kn4_eq, kn4_tl, kn4_el, kn4_qe, kn5_lt, kn5_le, kn5_eq, kn5_tl, kn5_el, kn5_qe, kn8_lt, kn8_le, kn8_eq, kn8_tl, kn8_el, kn8_qe, kn9_lt, kn9_le, kn9_eq, kn9_tl, kn9_el, kn9_qe, kn10_lt, kn10_le, kn10_eq, kn10_tl, kn10_el, kn10_qe, kn12_lt, kn12_le, kn12_eq, kn12_tl, kn12_el, kn12_qe, kn15_lt, kn15_le, kn15_eq, kn15_tl, kn15_el, kn15_qe, kn16_lt, kn16_le, kn16_eq, kn16_tl, kn16_el, kn16_qe, kn23_lt, kn23_le, kn23_eq, kn23_tl, kn23_el, kn23_qe, kn24_lt, kn24_le, kn24_eq, kn24_tl, kn24_el, kn24_qe, kn30_lt, kn30_le, kn30_eq, kn30_tl, kn30_el, kn30_qe, kn33_lt, kn33_le, kn33_eq, kn33_tl, kn33_el, kn33_qe, kn96_lt, kn96_le, kn96_eq, kn96_tl, kn96_el, kn96_qe, kn97_lt, kn97_le, kn97_eq, kn97_tl, kn97_el, kn97_qe, kn100_lt, kn100_le, kn100_eq, kn100_tl, kn100_el, kn100_qe, kn108_lt, kn108_le, kn108_eq, kn108_tl, kn108_el, kn108_qe, kn120_lt, kn120_le, kn120_eq, kn120_tl, kn120_el, kn120_qe, kn121_lt, kn121_le, kn121_eq, kn121_tl, kn121_el, kn121_qe, kn122_lt, kn122_le, kn122_eq, kn122_tl, kn122_el, kn122_qe, kn128_lt, kn128_le, kn128_eq, kn128_tl, kn128_el, kn128_qe, kn130_lt, kn130_le, kn130_eq, kn130_tl, kn130_el, kn130_qe, kn999_lt, kn999_le, kn999_eq, kn999_tl, kn999_el, kn999_qe, kn1675_lt, kn1675_le, kn1675_eq, kn1675_tl, kn1675_el, kn1675_qe, kn3000_lt, kn3000_le, kn3000_eq, kn3000_tl, kn3000_el, kn3000_qe, kn9999_lt, kn9999_le, kn9999_eq, kn9999_tl, kn9999_el, kn9999_qe, kn99999_lt, kn99999_le, kn99999_eq, kn99999_tl, kn99999_el, kn99999_qe, kn9999999_lt, kn9999999_le, kn9999999_eq, kn9999999_tl, kn9999999_el, kn9999999_qe]
  by_cases h3 : t + k ≤ 3000
  · rw [if_pos h3, if_pos h3]
    refine q_mk ?_ (Rel.mk (nP := nP) (nF := nF) (nD := nD) (nJ := nJ) (t := t + k) ⟨⟨?_, ?_, n1, n2, n3, n4, h3⟩, gP.keep (fun i j hi hj => by simp (disch := omega) only [x_uo, x_uj, x_us]) (fun i j hi hj => by simp (disch := omega) only [x_uo, x_uj, x_us]), gF.keep (fun i j hi hj => by simp (disch := omega) only [x_uo, x_uj, x_us]) (fun i j hi hj => by simp (disch := omega) only [x_uo, x_uj, x_us]), gD.keep (fun i j hi hj => by simp (disch := omega) only [x_uo, x_uj, x_us]) (fun i j hi hj => by simp (disch := omega) only [x_uo, x_uj, x_us]), gJ.keep (fun i j hi hj => by simp (disch := omega) only [x_uo, x_uj, x_us]) (fun i j hi hj => by simp (disch := omega) only [x_uo, x_uj, x_us]), gR.keep (fun j hj => by simp (disch := omega) only [x_uo, x_uj, x_us]) (fun j hj => by simp (disch := omega) only [x_uo, x_uj, x_us]), gL.keep (fun j hj => by simp (disch := omega) only [x_uo, x_uj, x_us]) (fun j hj => by simp (disch := omega) only [x_uo, x_uj, x_us])⟩ (hL.keepS (fun a j q => by simp (disch := omega) only [x_uo, x_uj, x_us]) (by simp (disch := omega) only [x_uo, x_uj, x_us]) (fun j => by simp (disch := omega) only [x_uo, x_uj, x_us])) ⟨iP.keep (fun i j hi hj => by simp (disch := omega) only [x_uo, x_uj, x_us]), iF.keep (fun i j hi hj => by simp (disch := omega) only [x_uo, x_uj, x_us]), iD.keep (by omega) (Nat.le_refl _) (fun i j hi hj => by simp (disch := omega) only [x_uo, x_uj, x_us]), iJ.keep (by omega) (by omega) (fun i j hi hj => by simp (disch := omega) only [x_uo, x_uj, x_us]), iR.keep (fun j hj => by simp (disch := omega) only [x_uo, x_uj, x_us]) (fun j hj => by simp (disch := omega) only [x_uo, x_uj, x_us])⟩ (r_Rest.keep hR (fun a b q => by simp (disch := omega) only [x_uo, x_uj, x_us]) (fun a b q => by simp (disch := omega) only [x_uo, x_uj, x_us])))
    · simp (disch := omega) only [x_uo, x_uj, x_us]
    · simp (disch := omega) only [x_uo, x_uj, x_us, c0, c1, c2, c3, c4, and_self]
    · simp (disch := omega) only [x_uo, x_uj, x_us, s0, s1, s2, s3, s4, and_self]
  · rw [if_neg h3, if_neg h3]
    exact q_same h rfl rfl
theorem q_flat {C M : xM} (h : Rel C M) (a b : Int32) : q_Stp (fX10_flat C a b) (fX11_flat M a b) := by
  obtain ⟨⟨nP, nF, nD, nJ, t, hS, hL, iP, iF, iD, iJ, iR⟩, hR⟩ := id h
  obtain ⟨⟨⟨c0, c1, c2, c3, c4⟩, ⟨s0, s1, s2, s3, s4⟩, ⟨n1, n2, n3, n4, n5⟩⟩, gP, gF, gD, gJ, gR, gL⟩ := id hS
  unfold fX10_flat fX11_flat
  simp only [x_l, x_b_some, x_v_some, c_in, p_in, u_if0, p_less, p_more, p_size, p_orNone, c_oneIf, p_isPerson, p_isDeed, p_isJudgment, c_hasPerson, c_hasDeed, c_hasJudgment, x_zl0, x_zl1, x_z_if]
  refine q_ite h (fun h1 => ?_)
  refine q_ite h (fun h2 => ?_)
  obtain ⟨i, hi, rfl⟩ := u_of (n := 3) h1.1 h1.2 (by decide)
  obtain ⟨k, hk, rfl⟩ := u_of (n := 9999) h2.1 h2.2 (by decide)
  have g0 : C 24 i = M 1 (24 + i) := gL i (by omega)
  simp (disch := omega) only [u_3, u_6, u_5, u_10, u_1, u_24, u_a1, u_a2, u_a3, u_a4, u_a5, u_a6, u_a7, u_a8, u_m1, u_g, u_c, g0]
  refine q_mk rfl (Rel.mk (nP := nP) (nF := nF) (nD := nD) (nJ := nJ) (t := t) ⟨⟨?_, ?_, n1, n2, n3, n4, n5⟩, gP.keep (fun i j hi hj => by simp (disch := omega) only [x_uo, x_uj, x_us]) (fun i j hi hj => by simp (disch := omega) only [x_uo, x_uj, x_us]), gF.keep (fun i j hi hj => by simp (disch := omega) only [x_uo, x_uj, x_us]) (fun i j hi hj => by simp (disch := omega) only [x_uo, x_uj, x_us]), gD.keep (fun i j hi hj => by simp (disch := omega) only [x_uo, x_uj, x_us]) (fun i j hi hj => by simp (disch := omega) only [x_uo, x_uj, x_us]), gJ.keep (fun i j hi hj => by simp (disch := omega) only [x_uo, x_uj, x_us]) (fun i j hi hj => by simp (disch := omega) only [x_uo, x_uj, x_us]), gR.keep (fun j hj => by simp (disch := omega) only [x_uo, x_uj, x_us]) (fun j hj => by simp (disch := omega) only [x_uo, x_uj, x_us]), ?_⟩ (hL.keepS (fun a j q => by simp (disch := omega) only [x_uo, x_uj, x_us]) (by simp (disch := omega) only [x_uo, x_uj, x_us]) (fun j => by simp (disch := omega) only [x_uo, x_uj, x_us])) ⟨iP.keep (fun i j hi hj => by simp (disch := omega) only [x_uo, x_uj, x_us]), iF.keep (fun i j hi hj => by simp (disch := omega) only [x_uo, x_uj, x_us]), iD.keep (Nat.le_refl _) (Nat.le_refl _) (fun i j hi hj => by simp (disch := omega) only [x_uo, x_uj, x_us]), iJ.keep (Nat.le_refl _) (Nat.le_refl _) (fun i j hi hj => by simp (disch := omega) only [x_uo, x_uj, x_us]), ⟨?_, ?_⟩⟩ (r_Rest.keep hR (fun a b q => by simp (disch := omega) only [x_uo, x_uj, x_us]) (fun a b q => by simp (disch := omega) only [x_uo, x_uj, x_us])))
  · simp (disch := omega) only [x_uo, x_uj, x_us, c0, c1, c2, c3, c4, and_self]
  · simp (disch := omega) only [x_uo, x_uj, x_us, s0, s1, s2, s3, s4, and_self]
  · intro j hj
    have := gL j hj
    by_cases q : j = i
    · subst q
      simp (disch := omega) only [x_uo, x_uj, x_us, Nat.add_zero]
    · simp (disch := omega) only [x_uo, x_uj, x_us]
      exact this
  · intro j hj
    have := iR.1 j hj
    simp (disch := omega) only [x_uo, x_uj, x_us]
    exact this
  · intro j hj
    have := iR.2 j hj
    by_cases q : j = i
    · subst q
      exact ⟨k, hk, by simp (disch := omega) only [x_uo, x_uj, x_us]⟩
    · simp (disch := omega) only [x_uo, x_uj, x_us]
      exact this
theorem q_tell {C M : xM} (h : Rel C M) (a : Int32) : q_Stp (fX10_tell C a) (fX11_tell M a) := by
  obtain ⟨hN, hI, hT, ⟨n, w1, w2, w3, w4⟩, hs0, hs1⟩ := id h
  unfold fX10_tell fX11_tell
  simp only [x_l, x_b_some, x_v_some, c_in, p_in, u_if0, p_less, p_more, p_size, p_orNone, c_oneIf, p_isPerson, p_isDeed, p_isJudgment, c_hasPerson, c_hasDeed, c_hasJudgment, x_zl0, x_zl1, x_z_if, w2, w3]
  by_cases hn : n = 30
  · subst hn
    exact q_same h (if_neg (by decide)) (if_pos rfl)
  · simp (disch := omega) only [u_3, u_6, u_5, u_10, u_1, u_24, u_a1, u_a2, u_a3, u_a4, u_a5, u_a6, u_a7, u_a8, u_m1, u_g, u_c, l_ltn, l_len, l_eqn, l_neg, l_neg', kn0_lt, kn0_le, kn0_eq, kn0_tl, kn0_el, kn0_qe, kn1_lt, kn1_le, kn1_eq, kn1_tl, kn1_el, kn1_qe, kn2_lt, kn2_le, kn2_eq, kn2_tl, kn2_el, kn2_qe, kn3_lt, kn3_le, kn3_eq, kn3_tl, kn3_el, kn3_qe, kn4_lt, kn4_le, kn4_eq, kn4_tl, kn4_el, kn4_qe, kn5_lt, kn5_le, kn5_eq, kn5_tl, kn5_el, kn5_qe, kn8_lt, kn8_le, kn8_eq, kn8_tl, kn8_el, kn8_qe, kn9_lt, kn9_le, kn9_eq, kn9_tl, kn9_el, kn9_qe, kn10_lt, kn10_le, kn10_eq, kn10_tl, kn10_el, kn10_qe, kn12_lt, kn12_le, kn12_eq, kn12_tl, kn12_el, kn12_qe, kn15_lt, kn15_le, kn15_eq, kn15_tl, kn15_el, kn15_qe, kn16_lt, kn16_le, kn16_eq, kn16_tl, kn16_el, kn16_qe, kn23_lt, kn23_le, kn23_eq, kn23_tl, kn23_el, kn23_qe, kn24_lt, kn24_le, kn24_eq, kn24_tl, kn24_el, kn24_qe, kn30_lt, kn30_le, kn30_eq, kn30_tl, kn30_el, kn30_qe, kn33_lt, kn33_le, kn33_eq, kn33_tl, kn33_el, kn33_qe, kn96_lt, kn96_le, kn96_eq, kn96_tl, kn96_el, kn96_qe, kn97_lt, kn97_le, kn97_eq, kn97_tl, kn97_el, kn97_qe, kn100_lt, kn100_le, kn100_eq, kn100_tl, kn100_el, kn100_qe, kn108_lt, kn108_le, kn108_eq, kn108_tl, kn108_el, kn108_qe, kn120_lt, kn120_le, kn120_eq, kn120_tl, kn120_el, kn120_qe, kn121_lt, kn121_le, kn121_eq, kn121_tl, kn121_el, kn121_qe, kn122_lt, kn122_le, kn122_eq, kn122_tl, kn122_el, kn122_qe, kn128_lt, kn128_le, kn128_eq, kn128_tl, kn128_el, kn128_qe, kn130_lt, kn130_le, kn130_eq, kn130_tl, kn130_el, kn130_qe, kn999_lt, kn999_le, kn999_eq, kn999_tl, kn999_el, kn999_qe, kn1675_lt, kn1675_le, kn1675_eq, kn1675_tl, kn1675_el, kn1675_qe, kn3000_lt, kn3000_le, kn3000_eq, kn3000_tl, kn3000_el, kn3000_qe, kn9999_lt, kn9999_le, kn9999_eq, kn9999_tl, kn9999_el, kn9999_qe, kn99999_lt, kn99999_le, kn99999_eq, kn99999_tl, kn99999_el, kn99999_qe, kn9999999_lt, kn9999999_le, kn9999999_eq, kn9999999_tl, kn9999999_el, kn9999999_qe, hn, if_false, show n < 30 by omega, if_true]
    have hk : Rel (x_up C 5 n a) (x_up M 12 n a) → True := fun _ => trivial
    refine q_mk (by simp (disch := omega) only [x_uo, x_uj, x_us, w2, w3]) ⟨?_, ?_, ?_, ⟨n + 1, by omega, ?_, ?_, ?_⟩, ?_, ?_⟩
    · obtain ⟨nP, nF, nD, nJ, t, hS, hL, hi⟩ := hN
      refine ⟨nP, nF, nD, nJ, t, hS.keep (fun j => by simp (disch := omega) only [x_uo, x_uj, x_us]) (fun a j q => by simp (disch := omega) only [x_uo, x_uj, x_us]), hL.keep (fun a j q => by simp (disch := omega) only [x_uo, x_uj, x_us]), hi⟩
    · exact hI.keep (by simp (disch := omega) only [x_uo, x_uj, x_us]) (fun j => by simp (disch := omega) only [x_uo, x_uj, x_us]) (fun a j q => by simp (disch := omega) only [x_uo, x_uj, x_us]) (by simp (disch := omega) only [x_uo, x_uj, x_us]) (fun j => by simp (disch := omega) only [x_uo, x_uj, x_us])
    · obtain ⟨m, t1, t2, t3, t4⟩ := hT
      refine ⟨m, t1, by simp (disch := omega) only [x_uo, x_uj, x_us]; exact t2, by simp (disch := omega) only [x_uo, x_uj, x_us]; exact t3, fun i hi => ?_⟩
      have := t4 i hi
      simp (disch := omega) only [x_uo, x_uj, x_us]
      exact this
    · simp (disch := omega) only [x_uo, x_uj, x_us, w2, u_a1]
    · simp (disch := omega) only [x_uo, x_uj, x_us, w3, u_a1]
    · intro i hi
      by_cases q : i = n
      · subst q
        simp (disch := omega) only [x_uo, x_uj, x_us]
      · have := w4 i (by omega)
        simp (disch := omega) only [x_uo, x_uj, x_us]
        exact this
    · unfold r_S1 at hs0 ⊢
      simp (disch := omega) only [x_uo, x_uj, x_us]
      exact hs0
    · unfold r_S1 at hs1 ⊢
      simp (disch := omega) only [x_uo, x_uj, x_us]
      exact hs1
