theorem x_lb {α β : Type} (a : α) (k : α → β) : x_l a k = k a := rfl
theorem q_step {C M : xM} (h : Rel C M) (a : Int32) : q_Stp (fX10_step C a) (fX11_step M a) := by
  obtain ⟨⟨nP, nF, nD, nJ, t, hS, hL, iP, iF, iD, iJ, iR⟩, hR⟩ := id h
  obtain ⟨⟨⟨c0, c1, c2, c3, c4⟩, ⟨s0, s1, s2, s3, s4⟩, ⟨n1, n2, n3, n4, n5⟩⟩, gP, gF, gD, gJ, gR, gL⟩ := id hS
  have hN : RelN C M nP nF nD nJ t := ⟨⟨hS, hL, iP, iF, iD, iJ, iR⟩, hR⟩
  unfold fX10_step fX11_step
  rw [c_hasJudgment, p_isJudgment, x_b_some, x_b_some]
  refine q_ck h (by rw [c4, s4]) (fun hp => ?_)
  rw [c4, u_has (by omega)] at hp
  obtain ⟨j, hj, rfl⟩ := hp
  have j5 : C (169 + j) 5 = M 1 (792 + 10 * j + 5) := (gJ j hj).1 5 (by decide)
  have j6 : C (169 + j) 6 = M 1 (792 + 10 * j + 6) := (gJ j hj).1 6 (by decide)
  have r11 : C 23 11 = M 1 12 := gR 11 (by decide)
  have t0 : C 1 0 = M 1 0 := c0.trans s0.symm
  obtain ⟨⟨i, hi, ei⟩, -, -, -, -, ⟨st, hst, est⟩, -⟩ := iJ.1 j hj
  have hno : ∀ {x : Int32} {f : Option (Int32 × xM)}, f = some (x, C) → q_Stp f (some (x, M)) := fun e => q_same h e rfl
  rw [u_10, x_lb]
  rw [p_turned M (by omega), x_b_some, u_g (by omega) (by omega), u_c (by omega), j5]
  by_cases q3 : M 1 (792 + 10 * j + 5) = 3
  · rw [if_pos q3, if_pos q3, if_neg (by decide : ¬ (1 : Int32) = 0)]
    exact hno rfl
  rw [if_neg q3, if_neg q3, if_pos rfl, c_unp hj gJ, p_unp M (by omega), x_b_some, x_b_some]
  by_cases q4 : sp_unp (M 1) j = 0
  · rw [if_pos q4, if_pos q4]
    exact hno rfl
  rw [if_neg q4, if_neg q4, u_a6, u_g (by omega) (by omega), u_c (by omega), r11, t0, j6]
  by_cases q5 : M 1 0 - M 1 (792 + 10 * j + 6) < M 1 12
  · rw [if_pos q5, if_neg (Int32.not_le.mpr q5)]
    exact hno rfl
  rw [if_neg q5, if_pos (Int32.not_lt.mp q5), u_a5, u_g (by omega) (by omega), u_c (by omega)]
  have hst2 : st ≤ 2 := by
    rcases (show st ≤ 2 ∨ st = 3 by omega) with z | z
    · exact z
    · rw [est, z] at q3; exact absurd rfl q3
  have hN2 := (hN.setJ (f := 5) (v := nI (st + 1)) hj (by omega) (by omega) (by omega) (by omega) (fun _ => ⟨st + 1, by omega, rfl⟩)).setJ (f := 6) (v := M 1 0) hj (by omega) (by omega) (by omega) (by omega) (by omega)
  obtain ⟨⟨hS2, hL2, iP2, iF2, iD2, iJ2, iR2⟩, hR2⟩ := id hN2
  have pt : ∀ N : xM, fX11_isTurned N (nI j) = some ((if N 1 (792 + 10 * j + 5) = 3 then 1 else 0), N) := fun N => p_turned N (by omega)
  have pu : ∀ N : xM, fX11_unpaidDays N (nI j) = some (sp_unpd (N 1) j, N) := fun N => p_unpd N (by omega)
  have py : ∀ N : xM, fX11_isYoung N (nI i) = some ((if 1 ≤ N 1 (30 + 3 * i) ∧ N 1 (30 + 3 * i) ≤ 2 then 1 else 0), N) := fun N => p_isYoung N (by omega)
  have h10 : ((1 : Int32) = 0) = False := eq_false (by decide)
  by_cases q6 : st = 2
  · have f2 : (nI st = (2 : Int32)) = True := eq_true (by rw [q6]; rfl)
    have f3 : (nI (st + 1) = (3 : Int32)) = True := eq_true (by rw [q6]; rfl)
    have f3' : nI (st + 1) = (3 : Int32) := of_eq_true f3
    rcases hL with ⟨l1, l2⟩ | ⟨l1, l2, l3⟩
    · simp only [x_l, j5, est, u_a1, f2, f3, if_true, c_nolaw l2, x_b_some, l1]
      exact hno rfl
    · have l3' : r_rows (x_up (x_up C (169 + j) 5 (nI (st + 1))) (169 + j) 6 (M 1 0) 26) (x_up (x_up C (169 + j) 5 (nI (st + 1))) (169 + j) 6 (M 1 0) 27) (fun k => x_up (x_up M 1 (792 + 10 * j + 5) (nI (st + 1))) 1 (792 + 10 * j + 6) (M 1 0) 1 (952 + k)) := l3.keep (fun j => by simp (disch := omega) only [x_uo, x_uj, x_us]) (fun j => by simp (disch := omega) only [x_uo, x_uj, x_us]) (fun j => by simp (disch := omega) only [x_uo, x_uj, x_us])
      obtain ⟨r, C', M', e1, e2, e4, e5⟩ := w_hours (j := j) (i := i) hS2 l3' ⟨iP2, iF2, iD2, iJ2, iR2⟩ hj hi (by simp (disch := omega) only [x_uo, x_uj, x_us]; exact ei)
      have hN3 := (hN2.scr e4 e5).setJ (f := 7) (v := sp_bd r 0 9999) hj (by omega) (by omega) (fun _ => b_bd r (l := 0) (m := 9999) (by decide) (by decide)) (by omega) (by omega)
      have cs5 : C' (169 + j) 5 = nI (st + 1) := by rw [e4 _ _ (by omega) (by omega)]; simp (disch := omega) only [x_uo, x_uj, x_us]
      have ms5 : M' 1 (792 + 10 * j + 5) = nI (st + 1) := by rw [e5 _ _ (by omega) (by omega)]; simp (disch := omega) only [x_uo, x_uj, x_us]
      refine ⟨nI (st + 1), x_up C' (169 + j) 7 (sp_bd r 0 9999), x_up M' 1 (792 + 10 * j + 7) (sp_bd r 0 9999), ?_, ?_, hN3.rel⟩
      · simp (disch := omega) only [x_l, j5, est, u_a1, f3, if_true, c_law1 l2, x_b_some, h10, if_false, x_uo, x_uj, x_us, t0, e1, cs5]
      · have e2' : fX11_worked (x_up (x_up (x_up (x_up M 1 (792 + 10 * j + 5) (nI (st + 1))) 1 (792 + 10 * j + 6) (M 1 0)) 7 117 (sp_unpd (x_up (x_up M 1 (792 + 10 * j + 5) (nI (st + 1))) 1 (792 + 10 * j + 6) (M 1 0) 1) j)) 7 121 (if 1 ≤ M 1 (30 + 3 * i) ∧ M 1 (30 + 3 * i) ≤ 2 then 1 else 0)) 2 = some (r, M') := by
          have e0 : x_up (x_up M 1 (792 + 10 * j + 5) (nI (st + 1))) 1 (792 + 10 * j + 6) (M 1 0) 1 (30 + 3 * i) = M 1 (30 + 3 * i) := by simp (disch := omega) only [x_uo, x_uj, x_us]
          rw [e0] at e2
          exact e2
        by_cases q2 : 1 ≤ M 1 (30 + 3 * i) ∧ M 1 (30 + 3 * i) ≤ 2
        · rw [if_pos q2] at e2'
          simp (disch := omega) only [x_l, est, u_a1, u_a5, u_a6, u_a7, u_g, u_c, f2, f3, if_true, l1, h10, if_false, x_uo, x_uj, x_us, pt, pu, py, x_b_some, ei, eq_true q2, e2', p_more, p_less, ms5]
          rfl
        · rw [if_neg q2] at e2'
          simp (disch := omega) only [x_l, est, u_a1, u_a5, u_a6, u_a7, u_g, u_c, f2, f3, if_true, l1, h10, if_false, x_uo, x_uj, x_us, pt, pu, py, x_b_some, ei, eq_false q2, e2', p_more, p_less, ms5]
          rfl
  · have e3 : (nI st = (2 : Int32)) = False := eq_false (by rw [kn2_eq (by omega)]; exact q6)
    have e4 : (nI (st + 1) = (3 : Int32)) = False := eq_false (by rw [kn3_eq (by omega)]; omega)
    simp (disch := omega) only [x_l, j5, est, u_a1, u_a5, u_a6, u_g, u_c, e3, e4, if_false, if_true, x_uo, x_uj, x_us, t0, pt, x_b_some]
    exact q_mk rfl hN2.rel
