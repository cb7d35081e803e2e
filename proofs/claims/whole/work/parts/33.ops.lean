theorem q_person {C M : xM} (h : Rel C M) (a : Int32) : q_Stp (fX10_person C a) (fX11_person M a) := by
  obtain ⟨⟨nP, nF, nD, nJ, t, hS, hL, iP, iF, iD, iJ, iR⟩, hR⟩ := id h
  obtain ⟨⟨⟨c0, c1, c2, c3, c4⟩, ⟨s0, s1, s2, s3, s4⟩, ⟨n1, n2, n3, n4, n5⟩⟩, gP, gF, gD, gJ, gR, gL⟩ := id hS
  unfold fX10_person fX11_person
  simp only [x_l, x_b_some, x_v_some, c_in, p_in, u_if0, p_less, p_more, p_size, p_orNone, c_oneIf, p_isPerson, p_isDeed, p_isJudgment, c_hasPerson, c_hasDeed, c_hasJudgment, x_zl0, x_zl1, x_z_if, c1, s1]
  by_cases ha : 0 ≤ a ∧ a ≤ 3
  · rw [if_neg (not_not_intro ha), if_neg (not_not_intro ha)]
    by_cases hn : nP = 12
    · subst hn
      exact q_same h (if_neg (by decide)) (if_pos rfl)
    · obtain ⟨k, hk, rfl⟩ := u_of (n := 3) ha.1 ha.2 (by decide)
      unfold fX4_begin
      simp (disch := omega) only [x_l, x_b_some, x_v_some, c_in, p_in, u_if0, p_less, p_more, p_size, p_orNone, c_oneIf, p_isPerson, p_isDeed, p_isJudgment, c_hasPerson, c_hasDeed, c_hasJudgment, x_zl0, x_zl1, x_z_if, u_3, u_6, u_5, u_10, u_1, u_24, u_a1, u_a2, u_a3, u_a4, u_a5, u_a6, u_a7, u_a8, u_m1, u_g, u_c, l_ltn, l_len, l_eqn, l_neg, l_neg', kn0_lt, kn0_le, kn0_eq, kn0_tl, kn0_el, kn0_qe, kn1_lt, kn1_le, kn1_eq, kn1_tl, kn1_el, kn1_qe, kn2_lt, kn2_le, kn2_eq, kn2_tl, kn2_el, kn2_qe, kn3_lt, kn3_le, kn3_eq, kn3_tl, kn3_el, kn3_qe, kn4_lt, kn4_le, kn4_eq, kn4_tl, kn4_el, kn4_qe, kn5_lt, kn5_le, kn5_eq, kn5_tl, kn5_el, kn5_qe, kn8_lt, kn8_le, kn8_eq, kn8_tl, kn8_el, kn8_qe, kn9_lt, kn9_le, kn9_eq, kn9_tl, kn9_el, kn9_qe, kn10_lt, kn10_le, kn10_eq, kn10_tl, kn10_el, kn10_qe, kn12_lt, kn12_le, kn12_eq, kn12_tl, kn12_el, kn12_qe, kn15_lt, kn15_le, kn15_eq, kn15_tl, kn15_el, kn15_qe, kn16_lt, kn16_le, kn16_eq, kn16_tl, kn16_el, kn16_qe, kn23_lt, kn23_le, kn23_eq, kn23_tl, kn23_el, kn23_qe, kn24_lt, kn24_le, kn24_eq, kn24_tl, kn24_el, kn24_qe, kn30_lt, kn30_le, kn30_eq, kn30_tl, kn30_el, kn30_qe, kn33_lt, kn33_le, kn33_eq, kn33_tl, kn33_el, kn33_qe, kn96_lt, kn96_le, kn96_eq, kn96_tl, kn96_el, kn96_qe, kn97_lt, kn97_le, kn97_eq, kn97_tl, kn97_el, kn97_qe, kn100_lt, kn100_le, kn100_eq, kn100_tl, kn100_el, kn100_qe, kn108_lt, kn108_le, kn108_eq, kn108_tl, kn108_el, kn108_qe, kn120_lt, kn120_le, kn120_eq, kn120_tl, kn120_el, kn120_qe, kn121_lt, kn121_le, kn121_eq, kn121_tl, kn121_el, kn121_qe, kn122_lt, kn122_le, kn122_eq, kn122_tl, kn122_el, kn122_qe, kn128_lt, kn128_le, kn128_eq, kn128_tl, kn128_el, kn128_qe, kn130_lt, kn130_le, kn130_eq, kn130_tl, kn130_el, kn130_qe, kn999_lt, kn999_le, kn999_eq, kn999_tl, kn999_el, kn999_qe, kn1675_lt, kn1675_le, kn1675_eq, kn1675_tl, kn1675_el, kn1675_qe, kn3000_lt, kn3000_le, kn3000_eq, kn3000_tl, kn3000_el, kn3000_qe, kn9999_lt, kn9999_le, kn9999_eq, kn9999_tl, kn9999_el, kn9999_qe, kn99999_lt, kn99999_le, kn99999_eq, kn99999_tl, kn99999_el, kn99999_qe, kn9999999_lt, kn9999999_le, kn9999999_eq, kn9999999_tl, kn9999999_el, kn9999999_qe, hn, if_false, show nP < 12 by omega, if_true]
      refine q_mk ?_ (Rel.mk (nP := nP + 1) (nF := nF) (nD := nD) (nJ := nJ) (t := t) ⟨⟨?_, ?_, by omega, n2, n3, n4, n5⟩, ?_, gF.keep (fun i j hi hj => by simp (disch := omega) only [x_uo, x_uj, x_us]) (fun i j hi hj => by simp (disch := omega) only [x_uo, x_uj, x_us]), gD.keep (fun i j hi hj => by simp (disch := omega) only [x_uo, x_uj, x_us]) (fun i j hi hj => by simp (disch := omega) only [x_uo, x_uj, x_us]), gJ.keep (fun i j hi hj => by simp (disch := omega) only [x_uo, x_uj, x_us]) (fun i j hi hj => by simp (disch := omega) only [x_uo, x_uj, x_us]), gR.keep (fun j hj => by simp (disch := omega) only [x_uo, x_uj, x_us]) (fun j hj => by simp (disch := omega) only [x_uo, x_uj, x_us]), gL.keep (fun j hj => by simp (disch := omega) only [x_uo, x_uj, x_us]) (fun j hj => by simp (disch := omega) only [x_uo, x_uj, x_us])⟩ (hL.keepS (fun a j q => by simp (disch := omega) only [x_uo, x_uj, x_us]) (by simp (disch := omega) only [x_uo, x_uj, x_us]) (fun j => by simp (disch := omega) only [x_uo, x_uj, x_us])) ⟨?_, iF.keep (fun i j hi hj => by simp (disch := omega) only [x_uo, x_uj, x_us]), iD.keep (by omega) (Nat.le_refl _) (fun i j hi hj => by simp (disch := omega) only [x_uo, x_uj, x_us]), iJ.keep (by omega) (Nat.le_refl _) (fun i j hi hj => by simp (disch := omega) only [x_uo, x_uj, x_us]), iR.keep (fun j hj => by simp (disch := omega) only [x_uo, x_uj, x_us]) (fun j hj => by simp (disch := omega) only [x_uo, x_uj, x_us])⟩ (r_Rest.keep hR (fun a b q => by simp (disch := omega) only [x_uo, x_uj, x_us]) (fun a b q => by simp (disch := omega) only [x_uo, x_uj, x_us])))
      · simp (disch := omega) only [x_uo, x_uj, x_us, c1, s1]
      · simp (disch := omega) only [x_uo, x_uj, x_us, c0, c1, c2, c3, c4, u_a1, and_self]
      · simp (disch := omega) only [x_uo, x_uj, x_us, s0, s1, s2, s3, s4, u_a1, and_self]
      · intro i hi j hj
        rcases Nat.lt_or_ge i nP with q | q
        · have := gP i q j hj
          simp (disch := omega) only [x_uo, x_uj, x_us]
          exact this
        · obtain rfl : i = nP := by omega
          rcases (show j = 0 ∨ j = 1 ∨ j = 2 by omega) with rfl | rfl | rfl <;> simp (disch := omega) only [x_uo, x_uj, x_us, Nat.add_zero]
      · intro i hi
        rcases Nat.lt_or_ge i nP with q | q
        · obtain ⟨a1, a2, a3⟩ := iP.keep (s' := _) (fun _ _ _ _ => rfl) i q
          refine ⟨by simp (disch := omega) only [x_uo, x_uj, x_us]; exact a1, ?_, by simp (disch := omega) only [x_uo, x_uj, x_us]; exact a3⟩
          rcases a2 with a2 | ⟨x, b1, b2, b3, b4⟩
          · exact Or.inl (by simp (disch := omega) only [x_uo, x_uj, x_us]; exact a2)
          · exact Or.inr ⟨x, by omega, b2, by simp (disch := omega) only [x_uo, x_uj, x_us]; exact b3, by simp (disch := omega) only [x_uo, x_uj, x_us]; exact b4⟩
        · obtain rfl : i = nP := by omega
          refine ⟨⟨k, hk, by simp (disch := omega) only [x_uo, x_uj, x_us]⟩, Or.inl (by simp (disch := omega) only [x_uo, x_uj, x_us]), 0, by omega, by simp (disch := omega) only [x_uo, x_uj, x_us]; rfl⟩
  · rw [if_pos ha, if_pos ha]
    exact q_same h rfl rfl
