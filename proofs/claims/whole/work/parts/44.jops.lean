def RelN (C M : xM) (nP nF nD nJ t : Nat) : Prop := r_Full 1 0 C (M 1) nP nF nD nJ t ∧ r_Rest C M
theorem RelN.rel {C M : xM} {nP nF nD nJ t : Nat} (h : RelN C M nP nF nD nJ t) : Rel C M := ⟨⟨nP, nF, nD, nJ, t, h.1⟩, h.2⟩
theorem RelN.setJ {C M : xM} {nP nF nD nJ t j f : Nat} {v : Int32} (h : RelN C M nP nF nD nJ t) (hj : j < nJ) (hf : 2 ≤ f) (hf8 : f < 8) (hv : f = 2 ∨ f = 3 ∨ f = 7 → ∃ d, d ≤ 9999 ∧ v = nI d) (hv4 : f = 4 → ∃ d, d ≤ 99980001 ∧ v = nI d) (hv5 : f = 5 → ∃ d, d ≤ 3 ∧ v = nI d) : RelN (x_up C (169 + j) f v) (x_up M 1 (792 + 10 * j + f) v) nP nF nD nJ t := by
  obtain ⟨⟨hS, hL, iP, iF, iD, iJ, iR⟩, hR⟩ := h
  obtain ⟨⟨⟨c0, c1, c2, c3, c4⟩, ⟨s0, s1, s2, s3, s4⟩, ⟨n1, n2, n3, n4, n5⟩⟩, gP, gF, gD, gJ, gR, gL⟩ := id hS
  refine ⟨⟨⟨⟨?_, ?_, n1, n2, n3, n4, n5⟩, gP.keep (fun i j hi hj => by simp (disch := omega) only [x_uo, x_uj, x_us]) (fun i j hi hj => by simp (disch := omega) only [x_uo, x_uj, x_us]), gF.keep (fun i j hi hj => by simp (disch := omega) only [x_uo, x_uj, x_us]) (fun i j hi hj => by simp (disch := omega) only [x_uo, x_uj, x_us]), gD.keep (fun i j hi hj => by simp (disch := omega) only [x_uo, x_uj, x_us]) (fun i j hi hj => by simp (disch := omega) only [x_uo, x_uj, x_us]), ?_, gR.keep (fun j hj => by simp (disch := omega) only [x_uo, x_uj, x_us]) (fun j hj => by simp (disch := omega) only [x_uo, x_uj, x_us]), gL.keep (fun j hj => by simp (disch := omega) only [x_uo, x_uj, x_us]) (fun j hj => by simp (disch := omega) only [x_uo, x_uj, x_us])⟩, (hL.keepS (fun a j q => by simp (disch := omega) only [x_uo, x_uj, x_us]) (by simp (disch := omega) only [x_uo, x_uj, x_us]) (fun j => by simp (disch := omega) only [x_uo, x_uj, x_us])), ⟨iP.keep (fun i j hi hj => by simp (disch := omega) only [x_uo, x_uj, x_us]), iF.keep (fun i j hi hj => by simp (disch := omega) only [x_uo, x_uj, x_us]), iD.keep (Nat.le_refl _) (Nat.le_refl _) (fun i j hi hj => by simp (disch := omega) only [x_uo, x_uj, x_us]), ?_, iR.keep (fun j hj => by simp (disch := omega) only [x_uo, x_uj, x_us]) (fun j hj => by simp (disch := omega) only [x_uo, x_uj, x_us])⟩⟩, (r_Rest.keep hR (fun a b q => by simp (disch := omega) only [x_uo, x_uj, x_us]) (fun a b q => by simp (disch := omega) only [x_uo, x_uj, x_us]))⟩
  · simp (disch := omega) only [x_uo, x_uj, x_us, c0, c1, c2, c3, c4, and_self]
  · simp (disch := omega) only [x_uo, x_uj, x_us, s0, s1, s2, s3, s4, and_self]
  · intro i hi
    obtain ⟨a1, a2, a3⟩ := gJ i hi
    by_cases q : i = j
    · subst q
      refine ⟨fun z hz => ?_, ?_, ?_⟩
      · have := a1 z hz
        by_cases q2 : z = f
        · subst q2
          simp (disch := omega) only [x_uo, x_uj, x_us, Nat.add_zero]
        · simp (disch := omega) only [x_uo, x_uj, x_us, Nat.add_zero]
          exact this
      · simp (disch := omega) only [x_uo, x_uj, x_us, Nat.add_zero]
        exact a2
      · simp (disch := omega) only [x_uo, x_uj, x_us, Nat.add_zero]
        exact a3
    · refine ⟨fun z hz => ?_, ?_, ?_⟩
      · have := a1 z hz
        simp (disch := omega) only [x_uo, x_uj, x_us]
        exact this
      · simp (disch := omega) only [x_uo, x_uj, x_us]
        exact a2
      · simp (disch := omega) only [x_uo, x_uj, x_us]
        exact a3
  · obtain ⟨b1, b2⟩ := iJ
    refine ⟨fun i hi => ?_, fun i z hi hz => ?_⟩
    · obtain ⟨e1, e2, e3, e4, e5, e6, e7, e8⟩ := b1 i hi
      have rd : ∀ z, z < 10 → (∃ q, q = 0 ∧ (i = j ∧ z = f)) ∨ x_up M 1 (792 + 10 * j + f) v 1 (792 + 10 * i + z) = M 1 (792 + 10 * i + z) := by
        intro z hz
        by_cases q : i = j ∧ z = f
        · exact Or.inl ⟨0, rfl, q⟩
        · refine Or.inr ?_
          by_cases q1 : i = j
          · subst q1
            have : z ≠ f := fun e => q ⟨rfl, e⟩
            simp (disch := omega) only [x_uo, x_uj, x_us]
          · simp (disch := omega) only [x_uo, x_uj, x_us]
      refine ⟨?_, ?_, ?_, ?_, ?_, ?_, ?_, ?_⟩
      · simp (disch := omega) only [x_uo, x_uj, x_us]; exact e1
      · simp (disch := omega) only [x_uo, x_uj, x_us]; exact e2
      · rcases rd 2 (by omega) with ⟨-, -, q1, q2⟩ | q
        · subst q1; subst q2; rw [x_us]; exact hv (Or.inl rfl)
        · rw [q]; exact e3
      · rcases rd 3 (by omega) with ⟨-, -, q1, q2⟩ | q
        · subst q1; subst q2; rw [x_us]; exact hv (Or.inr (Or.inl rfl))
        · rw [q]; exact e4
      · rcases rd 4 (by omega) with ⟨-, -, q1, q2⟩ | q
        · subst q1; subst q2; rw [x_us]; exact hv4 rfl
        · rw [q]; exact e5
      · rcases rd 5 (by omega) with ⟨-, -, q1, q2⟩ | q
        · subst q1; subst q2; rw [x_us]; exact hv5 rfl
        · rw [q]; exact e6
      · rcases rd 7 (by omega) with ⟨-, -, q1, q2⟩ | q
        · subst q1; subst q2; rw [x_us]; exact hv (Or.inr (Or.inr rfl))
        · rw [q]; exact e7
      · simp (disch := omega) only [x_uo, x_uj, x_us]; exact e8
    · have := b2 i z hi hz
      simp (disch := omega) only [x_uo, x_uj, x_us]
      exact this
/-- a fine, what is unpaid, as numbers -/
theorem b_fine {s : Nat → Int32} {a b j : Nat} (ha : s (792 + 10 * j + 2) = nI a) (hb : s (792 + 10 * j + 3) = nI b) : sp_fine s j = nI (a * b) := by
  unfold sp_fine
  rw [ha, hb, pk_mul]
theorem b_unp {s : Nat → Int32} {a b c j : Nat} (ha : s (792 + 10 * j + 2) = nI a) (hb : s (792 + 10 * j + 3) = nI b) (hc : s (792 + 10 * j + 4) = nI c) (h1 : a * b < 2 ^ 30) (h2 : c < 2 ^ 30) : sp_unp s j = nI (a * b - c) := by
  unfold sp_unp
  rw [b_fine ha hb, hc]
  by_cases q : c ≤ a * b
  · rw [pk_sub q, if_pos (nI_pos' (by omega))]
  · rw [if_neg (Int32.not_le.mpr (pk_sneg h2 (by omega))), show a * b - c = 0 by omega]
    rfl
theorem u_99 {a b : Nat} (ha : a ≤ 9999) (hb : b ≤ 9999) : a * b ≤ 99980001 := Nat.mul_le_mul ha hb
theorem p_turned (M : xM) {j : Nat} (hj : j < 16) : fX11_isTurned M (nI j) = some ((if M 1 (792 + 10 * j + 5) = 3 then 1 else 0), M) := by
  unfold fX11_isTurned
  simp (disch := omega) only [u_10, u_a5, u_g, u_c, u_ifs]
theorem p_late (M : xM) {j : Nat} (d : Int32) (hj : j < 16) : fX11_isLate M (nI j) d = some ((if M 1 0 - M 1 (792 + 10 * j + 1) ≤ d then 0 else 1), M) := by
  unfold fX11_isLate
  simp (disch := omega) only [u_10, u_a1, u_g, u_c, u_ifs]
theorem q_pay {C M : xM} (h : Rel C M) (a b : Int32) : q_Stp (fX10_pay C a b) (fX11_pay M a b) := by
  obtain ⟨⟨nP, nF, nD, nJ, t, hS, hL, iP, iF, iD, iJ, iR⟩, hR⟩ := id h
  obtain ⟨⟨⟨c0, c1, c2, c3, c4⟩, ⟨s0, s1, s2, s3, s4⟩, ⟨n1, n2, n3, n4, n5⟩⟩, gP, gF, gD, gJ, gR, gL⟩ := id hS
  have hN : RelN C M nP nF nD nJ t := ⟨⟨hS, hL, iP, iF, iD, iJ, iR⟩, hR⟩
  unfold fX10_pay fX11_pay
  rw [c_hasJudgment, p_isJudgment, x_b_some, x_b_some]
  refine q_ck h (by rw [c4, s4]) (fun hp => ?_)
  rw [c4, u_has (by omega)] at hp
  obtain ⟨j, hj, rfl⟩ := hp
  rw [c_in, p_in, x_b_some, x_b_some]
  refine q_ck h Iff.rfl (fun hb => ?_)
  have j5 : C (169 + j) 5 = M 1 (792 + 10 * j + 5) := (gJ j hj).1 5 (by decide)
  have j4 : C (169 + j) 4 = M 1 (792 + 10 * j + 4) := (gJ j hj).1 4 (by decide)
  obtain ⟨-, -, ⟨da, hda, ea⟩, ⟨su, hsu, es⟩, ⟨pa, hpa, ep⟩, -⟩ := iJ.1 j hj
  have h99 := u_99 hda hsu
  obtain ⟨k, hk, rfl⟩ := u_of (n := 9999999) (Int32.le_trans (by decide) hb.1) hb.2 (by decide)
  rw [p_turned M (by omega), x_b_some, u_g (by omega) (by decide), u_c (by omega), j5]
  by_cases q : M 1 (792 + 10 * j + 5) = 3
  · rw [if_pos q, if_pos q, if_neg (show ¬ (1 : Int32) = 0 by decide)]
    exact q_same h rfl rfl
  · rw [if_neg q, if_neg q, if_pos (show (0 : Int32) = 0 from rfl), c_unp hj gJ, p_unp M (by omega)]
    simp (disch := omega) only [x_l, x_b_some, p_less, u_10, u_a4, u_g, u_c, j4, b_unp ea es ep (by omega) (by omega), l_ltn, l_len, ep]
    have e1 : (if da * su - pa < k then nI (da * su - pa) else nI k) = nI (min k (da * su - pa)) := by
      split
      · rw [Nat.min_eq_right (by omega)]
      · rw [Nat.min_eq_left (by omega)]
    have e2 : (if da * su - pa ≤ k then nI (da * su - pa) else nI k) = nI (min k (da * su - pa)) := by
      split
      · rw [Nat.min_eq_right (by omega)]
      · rw [Nat.min_eq_left (by omega)]
    rw [e1, e2, nI_add]
    exact q_mk rfl (hN.setJ (f := 4) hj (by omega) (by omega) (by omega) (fun _ => ⟨pa + min k (da * su - pa), by omega, rfl⟩) (by omega)).rel
theorem q_back {C M : xM} (h : Rel C M) (a : Int32) : q_Stp (fX10_back C a) (fX11_back M a) := by
  obtain ⟨⟨nP, nF, nD, nJ, t, hS, hL, iP, iF, iD, iJ, iR⟩, hR⟩ := id h
  obtain ⟨⟨⟨c0, c1, c2, c3, c4⟩, ⟨s0, s1, s2, s3, s4⟩, ⟨n1, n2, n3, n4, n5⟩⟩, gP, gF, gD, gJ, gR, gL⟩ := id hS
  have hN : RelN C M nP nF nD nJ t := ⟨⟨hS, hL, iP, iF, iD, iJ, iR⟩, hR⟩
  unfold fX10_back fX11_back
  rw [c_hasJudgment, p_isJudgment, x_b_some, x_b_some]
  refine q_ck h (by rw [c4, s4]) (fun hp => ?_)
  rw [c4, u_has (by omega)] at hp
  obtain ⟨j, hj, rfl⟩ := hp
  have j1 : C (169 + j) 1 = M 1 (792 + 10 * j + 1) := (gJ j hj).1 1 (by decide)
  have j4 : C (169 + j) 4 = M 1 (792 + 10 * j + 4) := (gJ j hj).1 4 (by decide)
  have hr : C 23 10 = M 1 11 := gR 10 (by decide)
  obtain ⟨-, -, ⟨da, hda, ea⟩, ⟨su, hsu, es⟩, ⟨pa, hpa, ep⟩, -⟩ := iJ.1 j hj
  have h99 := u_99 hda hsu
  have hc := c_fine hj gJ
  have hm := p_fine M (show j < 16 by omega)
  simp (disch := omega) only [x_l, x_b_some, u_10, u_a1, u_a4, u_g, u_c, hc, hm, j1, j4, hr, c0]
  refine q_itn h (fun hq => ?_)
  simp (disch := omega) only [x_uo, x_uj, x_us, s0]
  refine q_mk rfl (hN.setJ (f := 4) hj (by omega) (by omega) (by omega) (fun _ => ⟨da * su, h99, b_fine ea es⟩) (by omega)).rel
theorem q_work {C M : xM} (h : Rel C M) (a b : Int32) : q_Stp (fX10_work C a b) (fX11_work M a b) := by
  obtain ⟨⟨nP, nF, nD, nJ, t, hS, hL, iP, iF, iD, iJ, iR⟩, hR⟩ := id h
  obtain ⟨⟨⟨c0, c1, c2, c3, c4⟩, ⟨s0, s1, s2, s3, s4⟩, ⟨n1, n2, n3, n4, n5⟩⟩, gP, gF, gD, gJ, gR, gL⟩ := id hS
  have hN : RelN C M nP nF nD nJ t := ⟨⟨hS, hL, iP, iF, iD, iJ, iR⟩, hR⟩
  unfold fX10_work fX11_work
  rw [c_hasJudgment, p_isJudgment, x_b_some, x_b_some]
  refine q_ck h (by rw [c4, s4]) (fun hp => ?_)
  rw [c4, u_has (by omega)] at hp
  obtain ⟨j, hj, rfl⟩ := hp
  rw [c_in, p_in, x_b_some, x_b_some]
  refine q_ck h Iff.rfl (fun hb => ?_)
  have j5 : C (169 + j) 5 = M 1 (792 + 10 * j + 5) := (gJ j hj).1 5 (by decide)
  have j7 : C (169 + j) 7 = M 1 (792 + 10 * j + 7) := (gJ j hj).1 7 (by decide)
  obtain ⟨-, -, -, -, -, -, ⟨ho, hho, eh⟩, -⟩ := iJ.1 j hj
  obtain ⟨k, hk, rfl⟩ := u_of (n := 9999) (Int32.le_trans (by decide) hb.1) hb.2 (by decide)
  simp (disch := omega) only [x_l, p_turned M (show j < 16 by omega), x_b_some, u_10, u_a7, u_g, u_c, j5, j7, u_if0, eh, l_len]
  by_cases q : M 1 (792 + 10 * j + 5) = 3
  · rw [if_pos q, if_neg (not_not_intro q)]
    by_cases q2 : k ≤ ho
    · rw [if_pos q2, if_pos q2, pk_sub q2]
      refine q_mk (by simp (disch := omega) only [x_uo, x_uj, x_us]) (hN.setJ (f := 7) hj (by omega) (by omega) (fun _ => ⟨ho - k, by omega, rfl⟩) (by omega) (by omega)).rel
    · rw [if_neg q2, if_neg q2]
      exact q_same h rfl rfl
  · rw [if_neg q, if_pos q]
    exact q_same h rfl rfl
