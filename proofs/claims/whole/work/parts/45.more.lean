/-- a judgment's appealed parts -/
theorem RelN.setA {C M : xM} {nP nF nD nJ t j z : Nat} {d : Nat} (h : RelN C M nP nF nD nJ t) (hj : j < nJ) (hz : z < 2) (hd : d ≤ 3) (ed : M 1 (792 + 10 * j + 8) = nI d) (hnb : z = 0 → d = 0 ∨ d = 2) (hnb1 : z = 1 → d = 0 ∨ d = 1) : RelN (x_up C (169 + j) (8 + z) 1) (x_up M 1 (792 + 10 * j + 8) (nI (d + (if z = 0 then 1 else 2)))) nP nF nD nJ t := by
  obtain ⟨⟨hS, hL, iP, iF, iD, iJ, iR⟩, hR⟩ := h
  obtain ⟨⟨⟨c0, c1, c2, c3, c4⟩, ⟨s0, s1, s2, s3, s4⟩, ⟨n1, n2, n3, n4, n5⟩⟩, gP, gF, gD, gJ, gR, gL⟩ := id hS
  refine ⟨⟨⟨⟨?_, ?_, n1, n2, n3, n4, n5⟩, gP.keep (fun i j hi hj => by simp (disch := omega) only [x_uo, x_uj, x_us]) (fun i j hi hj => by simp (disch := omega) only [x_uo, x_uj, x_us]), gF.keep (fun i j hi hj => by simp (disch := omega) only [x_uo, x_uj, x_us]) (fun i j hi hj => by simp (disch := omega) only [x_uo, x_uj, x_us]), gD.keep (fun i j hi hj => by simp (disch := omega) only [x_uo, x_uj, x_us]) (fun i j hi hj => by simp (disch := omega) only [x_uo, x_uj, x_us]), ?_, gR.keep (fun j hj => by simp (disch := omega) only [x_uo, x_uj, x_us]) (fun j hj => by simp (disch := omega) only [x_uo, x_uj, x_us]), gL.keep (fun j hj => by simp (disch := omega) only [x_uo, x_uj, x_us]) (fun j hj => by simp (disch := omega) only [x_uo, x_uj, x_us])⟩, (hL.keepS (fun a j q => by simp (disch := omega) only [x_uo, x_uj, x_us]) (by simp (disch := omega) only [x_uo, x_uj, x_us]) (fun j => by simp (disch := omega) only [x_uo, x_uj, x_us])), ⟨iP.keep (fun i j hi hj => by simp (disch := omega) only [x_uo, x_uj, x_us]), iF.keep (fun i j hi hj => by simp (disch := omega) only [x_uo, x_uj, x_us]), iD.keep (Nat.le_refl _) (Nat.le_refl _) (fun i j hi hj => by simp (disch := omega) only [x_uo, x_uj, x_us]), ?_, iR.keep (fun j hj => by simp (disch := omega) only [x_uo, x_uj, x_us]) (fun j hj => by simp (disch := omega) only [x_uo, x_uj, x_us])⟩⟩, (r_Rest.keep hR (fun a b q => by simp (disch := omega) only [x_uo, x_uj, x_us]) (fun a b q => by simp (disch := omega) only [x_uo, x_uj, x_us]))⟩
  · simp (disch := omega) only [x_uo, x_uj, x_us, c0, c1, c2, c3, c4, and_self]
  · simp (disch := omega) only [x_uo, x_uj, x_us, s0, s1, s2, s3, s4, and_self]
  · intro i hi
    obtain ⟨a1, a2, a3⟩ := gJ i hi
    by_cases q : i = j
    · subst q
      rw [ed] at a2 a3
      refine ⟨fun y hy => ?_, ?_, ?_⟩
      · have := a1 y hy
        simp (disch := omega) only [x_uo, x_uj, x_us, Nat.add_zero]
        exact this
      · rw [x_us]
        rcases (show z = 0 ∨ z = 1 by omega) with rfl | rfl
        · show x_up C (169 + i) 8 1 (169 + i) 8 = _
          rw [x_us]
          rcases hnb rfl with rfl | rfl <;> decide
        · simp (disch := omega) only [x_uo, x_uj, x_us, Nat.add_zero]
          refine Eq.trans a2 ?_
          rcases hnb1 rfl with rfl | rfl <;> decide
      · rw [x_us]
        rcases (show z = 0 ∨ z = 1 by omega) with rfl | rfl
        · simp (disch := omega) only [x_uo, x_uj, x_us, Nat.add_zero]
          refine Eq.trans a3 ?_
          rcases hnb rfl with rfl | rfl <;> decide
        · show x_up C (169 + i) 9 1 (169 + i) 9 = _
          rw [x_us]
          rcases hnb1 rfl with rfl | rfl <;> decide
    · refine ⟨fun y hy => ?_, ?_, ?_⟩
      · have := a1 y hy
        simp (disch := omega) only [x_uo, x_uj, x_us]
        exact this
      · simp (disch := omega) only [x_uo, x_uj, x_us]
        exact a2
      · simp (disch := omega) only [x_uo, x_uj, x_us]
        exact a3
  · obtain ⟨b1, b2⟩ := iJ
    refine ⟨fun i hi => ?_, fun i y hi hy => ?_⟩
    · obtain ⟨e1, e2, e3, e4, e5, e6, e7, e8⟩ := b1 i hi
      refine ⟨by simp (disch := omega) only [x_uo, x_uj, x_us]; exact e1, by simp (disch := omega) only [x_uo, x_uj, x_us]; exact e2, by simp (disch := omega) only [x_uo, x_uj, x_us]; exact e3, by simp (disch := omega) only [x_uo, x_uj, x_us]; exact e4, by simp (disch := omega) only [x_uo, x_uj, x_us]; exact e5, by simp (disch := omega) only [x_uo, x_uj, x_us]; exact e6, by simp (disch := omega) only [x_uo, x_uj, x_us]; exact e7, ?_⟩
      by_cases q : i = j
      · subst q
        refine ⟨d + (if z = 0 then 1 else 2), ?_, by simp (disch := omega) only [x_uo, x_uj, x_us]⟩
        rcases (show z = 0 ∨ z = 1 by omega) with rfl | rfl
        · rcases hnb rfl with rfl | rfl <;> decide
        · rcases hnb1 rfl with rfl | rfl <;> decide
      · simp (disch := omega) only [x_uo, x_uj, x_us]
        exact e8
    · have := b2 i y hi hy
      simp (disch := omega) only [x_uo, x_uj, x_us]
      exact this
theorem u_bt0 {d : Nat} (hd : d ≤ 3) : ((nI d >>> (nI 0 &&& 31)) &&& 1 = 1) = (nI d = 1 ∨ nI d = 3) := by
  rcases (show d = 0 ∨ d = 1 ∨ d = 2 ∨ d = 3 by omega) with rfl | rfl | rfl | rfl <;> decide
theorem u_bt1 {d : Nat} (hd : d ≤ 3) : ((nI d >>> (nI 1 &&& 31)) &&& 1 = 1) = (nI d = 2 ∨ nI d = 3) := by
  rcases (show d = 0 ∨ d = 1 ∨ d = 2 ∨ d = 3 by omega) with rfl | rfl | rfl | rfl <;> decide
theorem u_or0 {d : Nat} (hd : d = 0 ∨ d = 2) : nI d ||| ((1 : Int32) <<< (nI 0 &&& 31)) = nI (d + (if 0 = 0 then 1 else 2)) := by
  rcases hd with rfl | rfl <;> decide
theorem u_or1 {d : Nat} (hd : d = 0 ∨ d = 1) : nI d ||| ((1 : Int32) <<< (nI 1 &&& 31)) = nI (d + (if 1 = 0 then 1 else 2)) := by
  rcases hd with rfl | rfl <;> decide
theorem u_bn {d : Nat} (hd : d ≤ 3) (h : ¬ (nI d = 1 ∨ nI d = 3)) : d = 0 ∨ d = 2 := by
  rcases (show d = 0 ∨ d = 1 ∨ d = 2 ∨ d = 3 by omega) with rfl | rfl | rfl | rfl
  · exact Or.inl rfl
  · exact absurd (Or.inl rfl) h
  · exact Or.inr rfl
  · exact absurd (Or.inr rfl) h
theorem u_bn1 {d : Nat} (hd : d ≤ 3) (h : ¬ (nI d = 2 ∨ nI d = 3)) : d = 0 ∨ d = 1 := by
  rcases (show d = 0 ∨ d = 1 ∨ d = 2 ∨ d = 3 by omega) with rfl | rfl | rfl | rfl
  · exact Or.inl rfl
  · exact Or.inr rfl
  · exact absurd (Or.inl rfl) h
  · exact absurd (Or.inr rfl) h
/-- a rule's bound -/
theorem b_rule {s : Nat → Int32} (iR : i_R s) {j m v : Nat} (hj : j < 16) (hm : x_most j = nI m) (hm2 : m ≤ 99999) (hv : s (1 + j) = nI v) (hv2 : v < 2 ^ 31) : v ≤ m := by
  obtain ⟨w, w1, w2, w3⟩ := iR.1 j hj
  have e : v = w := (l_eqn hv2 (show w < 2 ^ 31 by omega)) ▸ (hv.symm.trans w3)
  rw [hm, l_len (by omega) (by omega)] at w1
  omega
theorem g_rule {s : Nat → Int32} (iR : i_R s) {j : Nat} (m : Nat) (hj : j < 16) (hm : x_most j = nI m) (hm2 : m ≤ 99999) : ∃ v, v ≤ m ∧ s (1 + j) = nI v := by
  obtain ⟨w, w1, w2, w3⟩ := iR.1 j hj
  exact ⟨w, b_rule iR hj hm hm2 w3 (by omega), w3⟩
theorem q_appeal {C M : xM} (h : Rel C M) (a b c : Int32) : q_Stp (fX10_appeal C a b c) (fX11_appeal M a b c) := by
  obtain ⟨⟨nP, nF, nD, nJ, t, hS, hL, iP, iF, iD, iJ, iR⟩, hR⟩ := id h
  obtain ⟨⟨⟨c0, c1, c2, c3, c4⟩, ⟨s0, s1, s2, s3, s4⟩, ⟨n1, n2, n3, n4, n5⟩⟩, gP, gF, gD, gJ, gR, gL⟩ := id hS
  have hN : RelN C M nP nF nD nJ t := ⟨⟨hS, hL, iP, iF, iD, iJ, iR⟩, hR⟩
  unfold fX10_appeal fX11_appeal
  rw [c_hasJudgment, p_isJudgment, x_b_some, x_b_some]
  refine q_ck h (by rw [c4, s4]) (fun hp => ?_)
  rw [c4, u_has (by omega)] at hp
  obtain ⟨j, hj, rfl⟩ := hp
  rw [c_in, p_in, x_b_some, x_b_some]
  refine q_ck h Iff.rfl (fun hb => ?_)
  obtain ⟨z, hz, rfl⟩ := u_of (n := 1) hb.1 hb.2 (by decide)
  have j1 : C (169 + j) 1 = M 1 (792 + 10 * j + 1) := (gJ j hj).1 1 (by decide)
  have j2 : C (169 + j) 2 = M 1 (792 + 10 * j + 2) := (gJ j hj).1 2 (by decide)
  have j3 : C (169 + j) 3 = M 1 (792 + 10 * j + 3) := (gJ j hj).1 3 (by decide)
  have j5 : C (169 + j) 5 = M 1 (792 + 10 * j + 5) := (gJ j hj).1 5 (by decide)
  have j8 : C (169 + j) 8 = (if M 1 (792 + 10 * j + 8) = 1 ∨ M 1 (792 + 10 * j + 8) = 3 then 1 else 0) := (gJ j hj).2.1
  have j9 : C (169 + j) 9 = (if M 1 (792 + 10 * j + 8) = 2 ∨ M 1 (792 + 10 * j + 8) = 3 then 1 else 0) := (gJ j hj).2.2
  have r3 : C 23 3 = M 1 4 := gR 3 (by decide)
  have r7 : C 23 7 = M 1 8 := gR 7 (by decide)
  have r8 : C 23 8 = M 1 9 := gR 8 (by decide)
  obtain ⟨-, -, -, -, -, -, -, ⟨d, hd, ed⟩⟩ := iJ.1 j hj
  obtain ⟨m4, b4, em4⟩ := g_rule iR 999 (j := 3) (by decide) rfl (by decide)
  obtain ⟨m8, b8, em8⟩ := g_rule iR 9999 (j := 7) (by decide) rfl (by decide)
  have em4' : M 1 4 = nI m4 := em4
  have em8' : M 1 8 = nI m8 := em8
  rw [ed] at j8 j9
  rcases (show z = 0 ∨ z = 1 by omega) with rfl | rfl
  · have z0 : (nI 0 = (0 : Int32)) = True := eq_true rfl
    simp only [x_l, z0, if_true]
    rw [r3, em4', c_in, p_in, x_b_some, x_b_some]
    refine q_ck h Iff.rfl (fun hc => ?_)
    obtain ⟨k, hk, rfl⟩ := u_of (n := m4) hc.1 hc.2 (by omega)
    have i2 : nI (792 + 10 * j) + 2 + nI 0 = nI (792 + 10 * j + 2) := by rw [u_a2, nI_add]
    unfold fX2_appealDays
    simp (maxSteps := 1000000) (disch := omega) only [x_l, x_b_some, u_10, u_a8, u_g, u_c, i2, j8, j5, j1, j2, r8, c0, s0, ed, p_late M _ (show j < 16 by omega), p_turned M (show j < 16 by omega), u_if0, u_if1, u_bt0 hd]
    by_cases q3 : nI d = 1 ∨ nI d = 3
    · simp only [q3, not_true_eq_false, if_true, if_false]
      refine q_same h (r := -1000000002) rfl ?_
      split <;> rfl
    · by_cases q2 : M 1 (792 + 10 * j + 5) = 3
      · simp only [q2, q3, not_true_eq_false, not_false_eq_true, if_true, if_false]
        refine q_same h (r := -1000000002) rfl ?_
        split <;> rfl
      · simp only [q2, q3, not_false_eq_true, if_true, if_false]
        refine q_itn h (fun q1 => ?_)
        have hx := u_bn hd q3
        simp (disch := omega) only [x_uo, x_uj, x_us, ed, u_or0 hx]
        refine q_mk rfl (RelN.setA (z := 0) (hN.setJ (f := 2) hj (by omega) (by omega) (fun _ => ⟨k, by omega, rfl⟩) (by omega) (by omega)) hj (by omega) hd (by simp (disch := omega) only [x_uo, x_uj, x_us]; exact ed) (fun _ => hx) (by omega)).rel
  · have z0 : (nI 1 = (0 : Int32)) = False := eq_false (by decide)
    simp only [x_l, z0, if_false]
    rw [r7, em8', c_in, p_in, x_b_some, x_b_some]
    refine q_ck h Iff.rfl (fun hc => ?_)
    obtain ⟨k, hk, rfl⟩ := u_of (n := m8) hc.1 hc.2 (by omega)
    have i2 : nI (792 + 10 * j) + 2 + nI 1 = nI (792 + 10 * j + 3) := by rw [u_a2, nI_add]
    unfold fX2_appealSum
    simp (maxSteps := 1000000) (disch := omega) only [x_l, x_b_some, u_10, u_a8, u_g, u_c, i2, j9, j5, j1, j3, r8, c0, s0, ed, p_late M _ (show j < 16 by omega), p_turned M (show j < 16 by omega), u_if0, u_if1, u_bt1 hd]
    by_cases q3 : nI d = 2 ∨ nI d = 3
    · simp only [q3, not_true_eq_false, if_true, if_false]
      refine q_same h (r := -1000000002) rfl ?_
      split <;> rfl
    · by_cases q2 : M 1 (792 + 10 * j + 5) = 3
      · simp only [q2, q3, not_true_eq_false, not_false_eq_true, if_true, if_false]
        refine q_same h (r := -1000000002) rfl ?_
        split <;> rfl
      · simp only [q2, q3, not_false_eq_true, if_true, if_false]
        refine q_itn h (fun q1 => ?_)
        have hx := u_bn1 hd q3
        simp (disch := omega) only [x_uo, x_uj, x_us, ed, u_or1 hx]
        refine q_mk rfl (RelN.setA (z := 1) (hN.setJ (f := 3) hj (by omega) (by omega) (fun _ => ⟨k, by omega, rfl⟩) (by omega) (by omega)) hj (by omega) hd (by simp (disch := omega) only [x_uo, x_uj, x_us]; exact ed) (by omega) (fun _ => hx)).rel
