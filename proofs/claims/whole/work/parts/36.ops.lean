theorem q_couple {C M : xM} (h : Rel C M) (a b : Int32) : q_Stp (fX10_couple C a b) (fX11_couple M a b) := by
  obtain ⟨⟨nP, nF, nD, nJ, t, hS, hL, iP, iF, iD, iJ, iR⟩, hR⟩ := id h
  obtain ⟨⟨⟨c0, c1, c2, c3, c4⟩, ⟨s0, s1, s2, s3, s4⟩, ⟨n1, n2, n3, n4, n5⟩⟩, gP, gF, gD, gJ, gR, gL⟩ := id hS
  unfold fX10_couple fX11_couple
  simp (disch := omega) only [x_l, x_b_some, x_v_some, c_in, p_in, u_if0, p_less, p_more, p_size, p_orNone, c_oneIf, p_isPerson, p_isDeed, p_isJudgment, c_hasPerson, c_hasDeed, c_hasJudgment, x_zl0, x_zl1, x_z_if, c1, s1, l_has (a := a) (n := nP) (by omega), l_has (a := b) (n := nP) (by omega)]
  refine q_ite h (fun ⟨i, hi, e⟩ => ?_)
  subst e
  refine q_ite h (fun ⟨x, hx, e⟩ => ?_)
  subst e
  refine q_itp h (fun hne => ?_)
  have hix : i ≠ x := fun e => hne (by rw [e])
  have g1 : C (31 + i) 1 = M 1 (30 + 3 * i + 1) := gP i hi 1 (by decide)
  have g2 : C (31 + x) 1 = M 1 (30 + 3 * x + 1) := gP x hx 1 (by decide)
  simp (disch := omega) only [x_l, x_b_some, x_v_some, c_in, p_in, u_if0, p_less, p_more, p_size, p_orNone, c_oneIf, p_isPerson, p_isDeed, p_isJudgment, c_hasPerson, c_hasDeed, c_hasJudgment, x_zl0, x_zl1, x_z_if, u_3, u_6, u_5, u_10, u_1, u_24, u_a1, u_a2, u_a3, u_a4, u_a5, u_a6, u_a7, u_a8, u_m1, u_g, u_c, c_coupled, g1, g2, u_if1]
  by_cases e1 : M 1 (30 + 3 * i + 1) = -1
  · by_cases e2 : M 1 (30 + 3 * x + 1) = -1
    · rw [if_pos e1, if_pos e1, if_pos e2, if_pos e2]
      refine q_mk rfl (Rel.mk (nP := nP) (nF := nF) (nD := nD) (nJ := nJ) (t := t) ⟨⟨?_, ?_, n1, n2, n3, n4, n5⟩, ?_, gF.keep (fun i j hi hj => by simp (disch := omega) only [x_uo, x_uj, x_us]) (fun i j hi hj => by simp (disch := omega) only [x_uo, x_uj, x_us]), gD.keep (fun i j hi hj => by simp (disch := omega) only [x_uo, x_uj, x_us]) (fun i j hi hj => by simp (disch := omega) only [x_uo, x_uj, x_us]), gJ.keep (fun i j hi hj => by simp (disch := omega) only [x_uo, x_uj, x_us]) (fun i j hi hj => by simp (disch := omega) only [x_uo, x_uj, x_us]), gR.keep (fun j hj => by simp (disch := omega) only [x_uo, x_uj, x_us]) (fun j hj => by simp (disch := omega) only [x_uo, x_uj, x_us]), gL.keep (fun j hj => by simp (disch := omega) only [x_uo, x_uj, x_us]) (fun j hj => by simp (disch := omega) only [x_uo, x_uj, x_us])⟩ (hL.keepS (fun a j q => by simp (disch := omega) only [x_uo, x_uj, x_us]) (by simp (disch := omega) only [x_uo, x_uj, x_us]) (fun j => by simp (disch := omega) only [x_uo, x_uj, x_us])) ⟨?_, iF.keep (fun i j hi hj => by simp (disch := omega) only [x_uo, x_uj, x_us]), iD.keep (Nat.le_refl _) (Nat.le_refl _) (fun i j hi hj => by simp (disch := omega) only [x_uo, x_uj, x_us]), iJ.keep (Nat.le_refl _) (Nat.le_refl _) (fun i j hi hj => by simp (disch := omega) only [x_uo, x_uj, x_us]), iR.keep (fun j hj => by simp (disch := omega) only [x_uo, x_uj, x_us]) (fun j hj => by simp (disch := omega) only [x_uo, x_uj, x_us])⟩ (r_Rest.keep hR (fun a b q => by simp (disch := omega) only [x_uo, x_uj, x_us]) (fun a b q => by simp (disch := omega) only [x_uo, x_uj, x_us])))
      · simp (disch := omega) only [x_uo, x_uj, x_us, c0, c1, c2, c3, c4, and_self]
      · simp (disch := omega) only [x_uo, x_uj, x_us, s0, s1, s2, s3, s4, and_self]
      · intro y hy j hj
        have := gP y hy j hj
        simp only [x_up_at, Nat.add_zero] at this ⊢
        grind
      · intro y hy
        obtain ⟨a1, a2, a3⟩ := iP y hy
        refine ⟨by simp (disch := omega) only [x_uo, x_uj, x_us]; exact a1, ?_, by simp (disch := omega) only [x_uo, x_uj, x_us]; exact a3⟩
        by_cases q1 : y = i
        · subst q1
          exact Or.inr ⟨x, hx, Ne.symm hix, by simp (disch := omega) only [x_uo, x_uj, x_us], by simp (disch := omega) only [x_uo, x_uj, x_us]⟩
        · by_cases q2 : y = x
          · subst q2
            exact Or.inr ⟨i, hi, hix, by simp (disch := omega) only [x_uo, x_uj, x_us], by simp (disch := omega) only [x_uo, x_uj, x_us]⟩
          · rcases a2 with a2 | ⟨z, b1, b2, b3, b4⟩
            · exact Or.inl (by simp (disch := omega) only [x_uo, x_uj, x_us]; exact a2)
            · have z1 : z ≠ i := fun e => by
                subst e
                rw [e1] at b4
                exact absurd b4 (by rw [l_neg' (by omega)]; exact id)
              have z2 : z ≠ x := fun e => by
                subst e
                rw [e2] at b4
                exact absurd b4 (by rw [l_neg' (by omega)]; exact id)
              exact Or.inr ⟨z, b1, b2, by simp (disch := omega) only [x_uo, x_uj, x_us]; exact b3, by simp (disch := omega) only [x_uo, x_uj, x_us]; exact b4⟩
    · rw [if_pos e1, if_pos e1, if_neg e2, if_neg e2]
      exact q_same h rfl rfl
  · rw [if_neg e1, if_neg e1]
    exact q_same h rfl rfl
theorem q_part {C M : xM} (h : Rel C M) (a : Int32) : q_Stp (fX10_part C a) (fX11_part M a) := by
  obtain ⟨⟨nP, nF, nD, nJ, t, hS, hL, iP, iF, iD, iJ, iR⟩, hR⟩ := id h
  obtain ⟨⟨⟨c0, c1, c2, c3, c4⟩, ⟨s0, s1, s2, s3, s4⟩, ⟨n1, n2, n3, n4, n5⟩⟩, gP, gF, gD, gJ, gR, gL⟩ := id hS
  unfold fX10_part fX11_part
  simp (disch := omega) only [x_l, x_b_some, x_v_some, c_in, p_in, u_if0, p_less, p_more, p_size, p_orNone, c_oneIf, p_isPerson, p_isDeed, p_isJudgment, c_hasPerson, c_hasDeed, c_hasJudgment, x_zl0, x_zl1, x_z_if, c1, s1, l_has (a := a) (n := nP) (by omega)]
  refine q_ite h (fun ⟨i, hi, e⟩ => ?_)
  subst e
  have g1 : C (31 + i) 1 = M 1 (30 + 3 * i + 1) := gP i hi 1 (by decide)
  obtain ⟨-, a2, -⟩ := iP i hi
  simp (disch := omega) only [x_l, x_b_some, x_v_some, c_in, p_in, u_if0, p_less, p_more, p_size, p_orNone, c_oneIf, p_isPerson, p_isDeed, p_isJudgment, c_hasPerson, c_hasDeed, c_hasJudgment, x_zl0, x_zl1, x_z_if, u_3, u_6, u_5, u_10, u_1, u_24, u_a1, u_a2, u_a3, u_a4, u_a5, u_a6, u_a7, u_a8, u_m1, u_g, u_c, g1, c1]
  rcases a2 with a2 | ⟨x, hx, hxi, e1, e2⟩
  · rw [a2, if_pos rfl, if_pos (by rw [u_has (by omega)]; rintro ⟨z, hz, ez⟩; exact (l_neg' (show z < 2 ^ 31 by omega)) ▸ ez)]
    exact q_same h rfl rfl
  · simp (disch := omega) only [e1, u_3, u_6, u_5, u_10, u_1, u_24, u_a1, u_a2, u_a3, u_a4, u_a5, u_a6, u_a7, u_a8, u_m1, u_g, u_c, l_neg, if_false]
    rw [if_neg (not_not_intro ((u_has (show nP < 2 ^ 31 by omega)).mpr ⟨x, hx, rfl⟩))]
    refine q_mk rfl (Rel.mk (nP := nP) (nF := nF) (nD := nD) (nJ := nJ) (t := t) ⟨⟨?_, ?_, n1, n2, n3, n4, n5⟩, ?_, gF.keep (fun i j hi hj => by simp (disch := omega) only [x_uo, x_uj, x_us]) (fun i j hi hj => by simp (disch := omega) only [x_uo, x_uj, x_us]), gD.keep (fun i j hi hj => by simp (disch := omega) only [x_uo, x_uj, x_us]) (fun i j hi hj => by simp (disch := omega) only [x_uo, x_uj, x_us]), gJ.keep (fun i j hi hj => by simp (disch := omega) only [x_uo, x_uj, x_us]) (fun i j hi hj => by simp (disch := omega) only [x_uo, x_uj, x_us]), gR.keep (fun j hj => by simp (disch := omega) only [x_uo, x_uj, x_us]) (fun j hj => by simp (disch := omega) only [x_uo, x_uj, x_us]), gL.keep (fun j hj => by simp (disch := omega) only [x_uo, x_uj, x_us]) (fun j hj => by simp (disch := omega) only [x_uo, x_uj, x_us])⟩ (hL.keepS (fun a j q => by simp (disch := omega) only [x_uo, x_uj, x_us]) (by simp (disch := omega) only [x_uo, x_uj, x_us]) (fun j => by simp (disch := omega) only [x_uo, x_uj, x_us])) ⟨?_, iF.keep (fun i j hi hj => by simp (disch := omega) only [x_uo, x_uj, x_us]), iD.keep (Nat.le_refl _) (Nat.le_refl _) (fun i j hi hj => by simp (disch := omega) only [x_uo, x_uj, x_us]), iJ.keep (Nat.le_refl _) (Nat.le_refl _) (fun i j hi hj => by simp (disch := omega) only [x_uo, x_uj, x_us]), iR.keep (fun j hj => by simp (disch := omega) only [x_uo, x_uj, x_us]) (fun j hj => by simp (disch := omega) only [x_uo, x_uj, x_us])⟩ (r_Rest.keep hR (fun a b q => by simp (disch := omega) only [x_uo, x_uj, x_us]) (fun a b q => by simp (disch := omega) only [x_uo, x_uj, x_us])))
    · simp (disch := omega) only [x_uo, x_uj, x_us, c0, c1, c2, c3, c4, and_self]
    · simp (disch := omega) only [x_uo, x_uj, x_us, s0, s1, s2, s3, s4, and_self]
    · intro y hy j hj
      have := gP y hy j hj
      simp only [x_up_at, Nat.add_zero] at this ⊢
      grind
    · intro y hy
      obtain ⟨a1, a2, a3⟩ := iP y hy
      refine ⟨by simp (disch := omega) only [x_uo, x_uj, x_us]; exact a1, ?_, by simp (disch := omega) only [x_uo, x_uj, x_us]; exact a3⟩
      by_cases q1 : y = i
      · subst q1
        exact Or.inl (by simp (disch := omega) only [x_uo, x_uj, x_us])
      · by_cases q2 : y = x
        · subst q2
          exact Or.inl (by simp (disch := omega) only [x_uo, x_uj, x_us])
        · rcases a2 with a2 | ⟨z, b1, b2, b3, b4⟩
          · exact Or.inl (by simp (disch := omega) only [x_uo, x_uj, x_us]; exact a2)
          · have z1 : z ≠ i := fun e => by
              subst e
              rw [e1] at b4
              exact q2 ((l_eqn (show x < 2 ^ 31 by omega) (show y < 2 ^ 31 by omega)) ▸ b4).symm
            have z2 : z ≠ x := fun e => by
              subst e
              rw [e2] at b4
              exact q1 ((l_eqn (show i < 2 ^ 31 by omega) (show y < 2 ^ 31 by omega)) ▸ b4).symm
            exact Or.inr ⟨z, b1, b2, by simp (disch := omega) only [x_uo, x_uj, x_us]; exact b3, by simp (disch := omega) only [x_uo, x_uj, x_us]; exact b4⟩
theorem q_fact {C M : xM} (h : Rel C M) (a b c d e : Int32) : q_Stp (fX10_fact C a b c d e) (fX11_fact M a b c d e) := by
  obtain ⟨⟨nP, nF, nD, nJ, t, hS, hL, iP, iF, iD, iJ, iR⟩, hR⟩ := id h
  obtain ⟨⟨⟨c0, c1, c2, c3, c4⟩, ⟨s0, s1, s2, s3, s4⟩, ⟨n1, n2, n3, n4, n5⟩⟩, gP, gF, gD, gJ, gR, gL⟩ := id hS
  unfold fX10_fact fX11_fact
  rw [c_hasPerson, p_isPerson, x_b_some, x_b_some]
  refine q_ck h (by rw [c1, s1]) (fun hp => ?_)
  rw [c1, u_has (by omega)] at hp
  obtain ⟨i, hi, rfl⟩ := hp
  rw [c_in, p_in, x_b_some, x_b_some]
  refine q_ck h Iff.rfl (fun hb => ?_)
  rw [c_in, p_in, x_b_some, x_b_some]
  refine q_ck h Iff.rfl (fun hc => ?_)
  by_cases hb1 : b = 1 <;> by_cases hc1 : c = 1 <;> by_cases hb3 : b = 3 <;> simp only [hb1, hc1, hb3, if_true, if_false, x_l, show ¬ (1 : Int32) = 3 by decide, show ¬ (3 : Int32) = 1 by decide]
  all_goals first
    | exact q_same h rfl rfl
    | skip
  all_goals
    rw [c_in, p_in, x_b_some, x_b_some]
    refine q_ck h Iff.rfl (fun hd => ?_)
    rw [c_in, p_in, x_b_some, x_b_some]
    refine q_ck h Iff.rfl (fun he => ?_)
    simp only [c2, s2]
    by_cases hn : nF = 96
    · subst hn
      exact q_same h (if_neg (by decide)) (if_pos rfl)
    · obtain ⟨k, hk, rfl⟩ : ∃ k, k ≤ 99999 ∧ d = nI k := by
        first
          | exact u_of (n := 99999) hd.1 hd.2 (by decide)
          | (obtain ⟨k, hk, ek⟩ := u_of (n := 9) hd.1 hd.2 (by decide); exact ⟨k, by omega, ek⟩)
      unfold fX1_begin
      simp (disch := omega) only [x_l, x_b_some, x_v_some, c_in, p_in, u_if0, p_less, p_more, p_size, p_orNone, c_oneIf, p_isPerson, p_isDeed, p_isJudgment, c_hasPerson, c_hasDeed, c_hasJudgment, x_zl0, x_zl1, x_z_if, u_3, u_6, u_5, u_10, u_1, u_24, u_a1, u_a2, u_a3, u_a4, u_a5, u_a6, u_a7, u_a8, u_m1, u_g, u_c, l_ltn, l_len, l_eqn, l_neg, l_neg', kn0_lt, kn0_le, kn0_eq, kn0_tl, kn0_el, kn0_qe, kn1_lt, kn1_le, kn1_eq, kn1_tl, kn1_el, kn1_qe, kn2_lt, kn2_le, kn2_eq, kn2_tl, kn2_el, kn2_qe, kn3_lt, kn3_le, kn3_eq, kn3_tl, kn3_el, kn3_qe, kn4_lt, kn4_le, kn4_eq, kn4_tl, kn4_el, kn4_qe, kn5_lt, kn5_le, kn5_eq, kn5_tl, kn5_el, kn5_qe, kn8_lt, kn8_le, kn8_eq, kn8_tl, kn8_el, kn8_qe, kn9_lt, kn9_le, kn9_eq, kn9_tl, kn9_el, kn9_qe, kn10_lt, kn10_le, kn10_eq, kn10_tl, kn10_el, kn10_qe, kn12_lt, kn12_le, kn12_eq, kn12_tl, kn12_el, kn12_qe, kn15_lt, kn15_le, kn15_eq, kn15_tl, kn15_el, kn15_qe, kn16_lt, kn16_le, kn16_eq, kn16_tl, kn16_el, kn16_qe, kn23_lt, kn23_le, kn23_eq, kn23_tl, kn23_el, kn23_qe, kn24_lt, kn24_le, kn24_eq, kn24_tl, kn24_el, kn24_qe, kn30_lt, kn30_le, kn30_eq, kn30_tl, kn30_el, kn30_qe, kn33_lt, kn33_le, kn33_eq, kn33_tl, kn33_el, kn33_qe, kn96_lt, kn96_le, kn96_eq, kn96_tl, kn96_el, kn96_qe, kn97_lt, kn97_le, kn97_eq, kn97_tl, kn97_el, kn97_qe, kn100_lt, kn100_le, kn100_eq, kn100_tl, kn100_el, kn100_qe, kn108_lt, kn108_le, kn108_eq, kn108_tl, kn108_el, kn108_qe, kn120_lt, kn120_le, kn120_eq, kn120_tl, kn120_el, kn120_qe, kn121_lt, kn121_le, kn121_eq, kn121_tl, kn121_el, kn121_qe, kn122_lt, kn122_le, kn122_eq, kn122_tl, kn122_el, kn122_qe, kn128_lt, kn128_le, kn128_eq, kn128_tl, kn128_el, kn128_qe, kn130_lt, kn130_le, kn130_eq, kn130_tl, kn130_el, kn130_qe, kn999_lt, kn999_le, kn999_eq, kn999_tl, kn999_el, kn999_qe, kn1675_lt, kn1675_le, kn1675_eq, kn1675_tl, kn1675_el, kn1675_qe, kn3000_lt, kn3000_le, kn3000_eq, kn3000_tl, kn3000_el, kn3000_qe, kn9999_lt, kn9999_le, kn9999_eq, kn9999_tl, kn9999_el, kn9999_qe, kn99999_lt, kn99999_le, kn99999_eq, kn99999_tl, kn99999_el, kn99999_qe, kn9999999_lt, kn9999999_le, kn9999999_eq, kn9999999_tl, kn9999999_el, kn9999999_qe, hn, if_false, show nF < 96 by omega, if_true]
      refine q_mk ?_ (Rel.mk (nP := nP) (nF := nF + 1) (nD := nD) (nJ := nJ) (t := t) ⟨⟨?_, ?_, n1, by omega, n3, n4, n5⟩, gP.keep (fun i j hi hj => by simp (disch := omega) only [x_uo, x_uj, x_us]) (fun i j hi hj => by simp (disch := omega) only [x_uo, x_uj, x_us]), ?_, gD.keep (fun i j hi hj => by simp (disch := omega) only [x_uo, x_uj, x_us]) (fun i j hi hj => by simp (disch := omega) only [x_uo, x_uj, x_us]), gJ.keep (fun i j hi hj => by simp (disch := omega) only [x_uo, x_uj, x_us]) (fun i j hi hj => by simp (disch := omega) only [x_uo, x_uj, x_us]), gR.keep (fun j hj => by simp (disch := omega) only [x_uo, x_uj, x_us]) (fun j hj => by simp (disch := omega) only [x_uo, x_uj, x_us]), gL.keep (fun j hj => by simp (disch := omega) only [x_uo, x_uj, x_us]) (fun j hj => by simp (disch := omega) only [x_uo, x_uj, x_us])⟩ (hL.keepS (fun a j q => by simp (disch := omega) only [x_uo, x_uj, x_us]) (by simp (disch := omega) only [x_uo, x_uj, x_us]) (fun j => by simp (disch := omega) only [x_uo, x_uj, x_us])) ⟨iP.keep (fun i j hi hj => by simp (disch := omega) only [x_uo, x_uj, x_us]), ?_, iD.keep (Nat.le_refl _) (Nat.le_refl _) (fun i j hi hj => by simp (disch := omega) only [x_uo, x_uj, x_us]), iJ.keep (Nat.le_refl _) (Nat.le_refl _) (fun i j hi hj => by simp (disch := omega) only [x_uo, x_uj, x_us]), iR.keep (fun j hj => by simp (disch := omega) only [x_uo, x_uj, x_us]) (fun j hj => by simp (disch := omega) only [x_uo, x_uj, x_us])⟩ (r_Rest.keep hR (fun a b q => by simp (disch := omega) only [x_uo, x_uj, x_us]) (fun a b q => by simp (disch := omega) only [x_uo, x_uj, x_us])))
      · simp (disch := omega) only [x_uo, x_uj, x_us, c2, s2]
      · simp (disch := omega) only [x_uo, x_uj, x_us, c0, c1, c2, c3, c4, u_a1, and_self]
      · simp (disch := omega) only [x_uo, x_uj, x_us, s0, s1, s2, s3, s4, u_a1, and_self]
      · intro y hy j hj
        rcases Nat.lt_or_ge y nF with q | q
        · have := gF y q j hj
          simp (disch := omega) only [x_uo, x_uj, x_us]
          exact this
        · obtain rfl : y = nF := by omega
          rcases (show j = 0 ∨ j = 1 ∨ j = 2 ∨ j = 3 ∨ j = 4 ∨ j = 5 by omega) with rfl | rfl | rfl | rfl | rfl | rfl <;> simp (disch := omega) only [x_uo, x_uj, x_us, Nat.add_zero, c0, s0]
      · intro y hy
        rcases Nat.lt_or_ge y nF with q | q
        · have := iF y q
          simp (disch := omega) only [x_uo, x_uj, x_us]
          exact this
        · obtain rfl : y = nF := by omega
          exact ⟨k, hk, by simp (disch := omega) only [x_uo, x_uj, x_us]⟩
theorem q_deed {C M : xM} (h : Rel C M) (a b c d : Int32) : q_Stp (fX10_deed C a b c d) (fX11_deed M a b c d) := by
  obtain ⟨⟨nP, nF, nD, nJ, t, hS, hL, iP, iF, iD, iJ, iR⟩, hR⟩ := id h
  obtain ⟨⟨⟨c0, c1, c2, c3, c4⟩, ⟨s0, s1, s2, s3, s4⟩, ⟨n1, n2, n3, n4, n5⟩⟩, gP, gF, gD, gJ, gR, gL⟩ := id hS
  unfold fX10_deed fX11_deed
  simp (disch := omega) only [x_l, x_b_some, x_v_some, c_in, p_in, u_if0, p_less, p_more, p_size, p_orNone, c_oneIf, p_isPerson, p_isDeed, p_isJudgment, c_hasPerson, c_hasDeed, c_hasJudgment, x_zl0, x_zl1, x_z_if, c0, s0, c1, s1, c3, s3, l_has (a := b) (n := nP) (by omega)]
  refine q_ite h (fun ha => ?_)
  refine q_ite h (fun ⟨i, hi, ei⟩ => ?_)
  subst ei
  refine q_ite h (fun hc => ?_)
  refine q_ite h (fun hd => ?_)
  by_cases hn : nD = 30
  · subst hn
    exact q_same h (if_neg (by decide)) (if_pos rfl)
  · obtain ⟨k, hk, rfl⟩ := u_of (n := 3) ha.1 ha.2 (by decide)
    unfold fX0_begin
    simp (disch := omega) only [x_l, x_b_some, x_v_some, c_in, p_in, u_if0, p_less, p_more, p_size, p_orNone, c_oneIf, p_isPerson, p_isDeed, p_isJudgment, c_hasPerson, c_hasDeed, c_hasJudgment, x_zl0, x_zl1, x_z_if, u_3, u_6, u_5, u_10, u_1, u_24, u_a1, u_a2, u_a3, u_a4, u_a5, u_a6, u_a7, u_a8, u_m1, u_g, u_c, l_ltn, l_len, l_eqn, l_neg, l_neg', kn0_lt, kn0_le, kn0_eq, kn0_tl, kn0_el, kn0_qe, kn1_lt, kn1_le, kn1_eq, kn1_tl, kn1_el, kn1_qe, kn2_lt, kn2_le, kn2_eq, kn2_tl, kn2_el, kn2_qe, kn3_lt, kn3_le, kn3_eq, kn3_tl, kn3_el, kn3_qe, kn4_lt, kn4_le, kn4_eq, kn4_tl, kn4_el, kn4_qe, kn5_lt, kn5_le, kn5_eq, kn5_tl, kn5_el, kn5_qe, kn8_lt, kn8_le, kn8_eq, kn8_tl, kn8_el, kn8_qe, kn9_lt, kn9_le, kn9_eq, kn9_tl, kn9_el, kn9_qe, kn10_lt, kn10_le, kn10_eq, kn10_tl, kn10_el, kn10_qe, kn12_lt, kn12_le, kn12_eq, kn12_tl, kn12_el, kn12_qe, kn15_lt, kn15_le, kn15_eq, kn15_tl, kn15_el, kn15_qe, kn16_lt, kn16_le, kn16_eq, kn16_tl, kn16_el, kn16_qe, kn23_lt, kn23_le, kn23_eq, kn23_tl, kn23_el, kn23_qe, kn24_lt, kn24_le, kn24_eq, kn24_tl, kn24_el, kn24_qe, kn30_lt, kn30_le, kn30_eq, kn30_tl, kn30_el, kn30_qe, kn33_lt, kn33_le, kn33_eq, kn33_tl, kn33_el, kn33_qe, kn96_lt, kn96_le, kn96_eq, kn96_tl, kn96_el, kn96_qe, kn97_lt, kn97_le, kn97_eq, kn97_tl, kn97_el, kn97_qe, kn100_lt, kn100_le, kn100_eq, kn100_tl, kn100_el, kn100_qe, kn108_lt, kn108_le, kn108_eq, kn108_tl, kn108_el, kn108_qe, kn120_lt, kn120_le, kn120_eq, kn120_tl, kn120_el, kn120_qe, kn121_lt, kn121_le, kn121_eq, kn121_tl, kn121_el, kn121_qe, kn122_lt, kn122_le, kn122_eq, kn122_tl, kn122_el, kn122_qe, kn128_lt, kn128_le, kn128_eq, kn128_tl, kn128_el, kn128_qe, kn130_lt, kn130_le, kn130_eq, kn130_tl, kn130_el, kn130_qe, kn999_lt, kn999_le, kn999_eq, kn999_tl, kn999_el, kn999_qe, kn1675_lt, kn1675_le, kn1675_eq, kn1675_tl, kn1675_el, kn1675_qe, kn3000_lt, kn3000_le, kn3000_eq, kn3000_tl, kn3000_el, kn3000_qe, kn9999_lt, kn9999_le, kn9999_eq, kn9999_tl, kn9999_el, kn9999_qe, kn99999_lt, kn99999_le, kn99999_eq, kn99999_tl, kn99999_el, kn99999_qe, kn9999999_lt, kn9999999_le, kn9999999_eq, kn9999999_tl, kn9999999_el, kn9999999_qe, hn, if_false, show nD < 30 by omega, if_true]
    refine q_mk ?_ (Rel.mk (nP := nP) (nF := nF) (nD := nD + 1) (nJ := nJ) (t := t) ⟨⟨?_, ?_, n1, n2, by omega, n4, n5⟩, gP.keep (fun i j hi hj => by simp (disch := omega) only [x_uo, x_uj, x_us]) (fun i j hi hj => by simp (disch := omega) only [x_uo, x_uj, x_us]), gF.keep (fun i j hi hj => by simp (disch := omega) only [x_uo, x_uj, x_us]) (fun i j hi hj => by simp (disch := omega) only [x_uo, x_uj, x_us]), ?_, gJ.keep (fun i j hi hj => by simp (disch := omega) only [x_uo, x_uj, x_us]) (fun i j hi hj => by simp (disch := omega) only [x_uo, x_uj, x_us]), gR.keep (fun j hj => by simp (disch := omega) only [x_uo, x_uj, x_us]) (fun j hj => by simp (disch := omega) only [x_uo, x_uj, x_us]), gL.keep (fun j hj => by simp (disch := omega) only [x_uo, x_uj, x_us]) (fun j hj => by simp (disch := omega) only [x_uo, x_uj, x_us])⟩ (hL.keepS (fun a j q => by simp (disch := omega) only [x_uo, x_uj, x_us]) (by simp (disch := omega) only [x_uo, x_uj, x_us]) (fun j => by simp (disch := omega) only [x_uo, x_uj, x_us])) ⟨iP.keep (fun i j hi hj => by simp (disch := omega) only [x_uo, x_uj, x_us]), iF.keep (fun i j hi hj => by simp (disch := omega) only [x_uo, x_uj, x_us]), ?_, iJ.keep (Nat.le_refl _) (Nat.le_refl _) (fun i j hi hj => by simp (disch := omega) only [x_uo, x_uj, x_us]), iR.keep (fun j hj => by simp (disch := omega) only [x_uo, x_uj, x_us]) (fun j hj => by simp (disch := omega) only [x_uo, x_uj, x_us])⟩ (r_Rest.keep hR (fun a b q => by simp (disch := omega) only [x_uo, x_uj, x_us]) (fun a b q => by simp (disch := omega) only [x_uo, x_uj, x_us])))
    · simp (disch := omega) only [x_uo, x_uj, x_us, c3, s3]
    · simp (disch := omega) only [x_uo, x_uj, x_us, c0, c1, c2, c3, c4, u_a1, and_self]
    · simp (disch := omega) only [x_uo, x_uj, x_us, s0, s1, s2, s3, s4, u_a1, and_self]
    · intro y hy j hj
      rcases Nat.lt_or_ge y nD with q | q
      · have := gD y q j hj
        simp (disch := omega) only [x_uo, x_uj, x_us]
        exact this
      · obtain rfl : y = nD := by omega
        rcases (show j = 0 ∨ j = 1 ∨ j = 2 ∨ j = 3 ∨ j = 4 by omega) with rfl | rfl | rfl | rfl | rfl <;> simp (disch := omega) only [x_uo, x_uj, x_us, Nat.add_zero]
    · intro y hy
      rcases Nat.lt_or_ge y nD with q | q
      · have := iD y q
        simp (disch := omega) only [x_uo, x_uj, x_us]
        exact this
      · obtain rfl : y = nD := by omega
        exact ⟨⟨k, hk, by simp (disch := omega) only [x_uo, x_uj, x_us]⟩, ⟨i, hi, by simp (disch := omega) only [x_uo, x_uj, x_us]⟩, Or.inl (by simp (disch := omega) only [x_uo, x_uj, x_us])⟩
