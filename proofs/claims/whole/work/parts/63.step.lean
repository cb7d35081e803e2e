theorem RelN.scr {C C' M M' : xM} {nP nF nD nJ t : Nat} (h : RelN C M nP nF nD nJ t) (hc : ∀ a b, a ≠ 29 → a ≠ 30 → C' a b = C a b) (hm : ∀ a b, a ≠ 6 → a ≠ 7 → M' a b = M a b) : RelN C' M' nP nF nD nJ t := by
  obtain ⟨⟨hS, hL, hI⟩, hR⟩ := h
  have e1 : M' 1 = M 1 := funext fun j => hm 1 j (by decide) (by decide)
  refine ⟨?_, r_Rest.keep hR (fun a b q => hc a b (by omega) (by omega)) (fun a b q => hm a b (by omega) (by omega))⟩
  rw [e1]
  exact ⟨hS.keep (fun j => hc _ _ (by omega) (by omega)) (fun a j q => hc _ _ (by omega) (by omega)), hL.keep (fun a j q => hc _ _ (by omega) (by omega)), hI⟩
theorem c_nolaw {C : xM} (h : C 25 3 = 0) : fX8_hasLaw C = some (0, C) := by
  unfold fX8_hasLaw
  rw [h]
  rfl
theorem c_law1 {C : xM} (h : 0 < C 25 3) : fX8_hasLaw C = some (1, C) := by
  unfold fX8_hasLaw
  rw [if_neg (Int32.not_le.mpr h)]
theorem q_worth {C M : xM} (h : Rel C M) (a : Int32) : q_Stp (fX10_worth C a) (fX11_worth M a) := by
  obtain ⟨⟨nP, nF, nD, nJ, t, hS, hL, iP, iF, iD, iJ, iR⟩, hR⟩ := id h
  obtain ⟨⟨⟨c0, c1, c2, c3, c4⟩, ⟨s0, s1, s2, s3, s4⟩, ⟨n1, n2, n3, n4, n5⟩⟩, gP, gF, gD, gJ, gR, gL⟩ := id hS
  have hN : RelN C M nP nF nD nJ t := ⟨⟨hS, hL, iP, iF, iD, iJ, iR⟩, hR⟩
  unfold fX10_worth fX11_worth
  rw [c_hasDeed, p_isDeed, x_b_some, x_b_some]
  refine q_ck h (by rw [c3, s3]) (fun hp => ?_)
  rw [c3, u_has (by omega)] at hp
  obtain ⟨d, hd, rfl⟩ := hp
  rcases hL with ⟨l1, l2⟩ | ⟨l1, l2, l3⟩
  · rw [c_nolaw l2, x_b_some, if_pos rfl, l1, if_pos rfl]
    exact q_same h rfl rfl
  · rw [c_law1 l2, x_b_some, if_neg (by decide : ¬ (1 : Int32) = 0), l1, if_neg (by decide : ¬ (1 : Int32) = 0), u_g (by omega) (by omega), u_c (by omega)]
    obtain ⟨r, C', M', e1, e2, e3, e4, -⟩ := w_worth hS l3 ⟨iP, iF, iD, iJ, iR⟩ hd
    rw [e1, e2, x_b_some, x_b_some]
    exact q_mk rfl (hN.scr e3 e4).rel
theorem q_sum {C M : xM} (h : Rel C M) (a b c : Int32) : q_Stp (fX10_sum C a b c) (fX11_sum M a b c) := by
  obtain ⟨⟨nP, nF, nD, nJ, t, hS, hL, iP, iF, iD, iJ, iR⟩, hR⟩ := id h
  obtain ⟨⟨⟨c0, c1, c2, c3, c4⟩, ⟨s0, s1, s2, s3, s4⟩, ⟨n1, n2, n3, n4, n5⟩⟩, gP, gF, gD, gJ, gR, gL⟩ := id hS
  have hN : RelN C M nP nF nD nJ t := ⟨⟨hS, hL, iP, iF, iD, iJ, iR⟩, hR⟩
  unfold fX10_sum fX11_sum
  rw [c_hasPerson, p_isPerson, x_b_some, x_b_some]
  refine q_ck h (by rw [c1, s1]) (fun hp => ?_)
  rw [c1, u_has (by omega)] at hp
  obtain ⟨i, hi, rfl⟩ := hp
  rw [c_in, p_in, x_b_some, x_b_some]
  refine q_ck h Iff.rfl (fun hb => ?_)
  rw [c_in, p_in, x_b_some, x_b_some]
  refine q_ck h (by rw [c0, s0]) (fun hd => ?_)
  rcases hL with ⟨l1, l2⟩ | ⟨l1, l2, l3⟩
  · rw [c_nolaw l2, x_b_some, if_pos rfl, l1, if_pos rfl]
    exact q_same h rfl rfl
  · rw [c_law1 l2, x_b_some, if_neg (by decide : ¬ (1 : Int32) = 0), l1, if_neg (by decide : ¬ (1 : Int32) = 0)]
    obtain ⟨r, C', M', e1, e2, e3, e4, -⟩ := w_sum b c hS l3 ⟨iP, iF, iD, iJ, iR⟩ hi
    rw [e1, e2, x_b_some, x_b_some]
    exact q_mk rfl (hN.scr e3 e4).rel
theorem q_reopen {C M : xM} (h : Rel C M) (a : Int32) : q_Stp (fX10_reopen C a) (fX11_reopen M a) := by
  obtain ⟨⟨nP, nF, nD, nJ, t, hS, hL, iP, iF, iD, iJ, iR⟩, hR⟩ := id h
  obtain ⟨⟨⟨c0, c1, c2, c3, c4⟩, ⟨s0, s1, s2, s3, s4⟩, ⟨n1, n2, n3, n4, n5⟩⟩, gP, gF, gD, gJ, gR, gL⟩ := id hS
  have hN : RelN C M nP nF nD nJ t := ⟨⟨hS, hL, iP, iF, iD, iJ, iR⟩, hR⟩
  unfold fX10_reopen fX11_reopen
  rw [c_hasJudgment, p_isJudgment, x_b_some, x_b_some]
  refine q_ck h (by rw [c4, s4]) (fun hp => ?_)
  rw [c4, u_has (by omega)] at hp
  obtain ⟨j, hj, rfl⟩ := hp
  have j0 : C (169 + j) 0 = M 1 (792 + 10 * j) := (gJ j hj).1 0 (by decide)
  have j1 : C (169 + j) 1 = M 1 (792 + 10 * j + 1) := (gJ j hj).1 1 (by decide)
  have j5 : C (169 + j) 5 = M 1 (792 + 10 * j + 5) := (gJ j hj).1 5 (by decide)
  have r9 : C 23 9 = M 1 10 := gR 9 (by decide)
  have t0 : C 1 0 = M 1 0 := c0.trans s0.symm
  obtain ⟨⟨i, hi, ei⟩, -⟩ := iJ.1 j hj
  rw [p_late M _ (by omega), x_b_some, p_turned M (by omega), x_b_some, u_g (by omega) (by omega), u_c (by omega)]
  have hno : ∀ {x : Int32} {f : Option (Int32 × xM)}, f = some (x, C) → q_Stp f (some (x, M)) := fun e => q_same h e rfl
  rcases hL with ⟨l1, l2⟩ | ⟨l1, l2, l3⟩
  · rw [c_nolaw l2, x_b_some, if_pos rfl, l1, if_pos rfl]
    by_cases q1 : M 1 0 - M 1 (792 + 10 * j + 1) ≤ M 1 10
    · rw [if_pos q1, if_pos rfl]
      by_cases q2 : M 1 (792 + 10 * j + 5) = 3
      · rw [if_pos q2, if_neg (by decide : ¬ (1 : Int32) = 0)]
        exact hno rfl
      · rw [if_neg q2, if_pos rfl]
        exact hno rfl
    · rw [if_neg q1, if_neg (by decide : ¬ (1 : Int32) = 0)]
      exact hno rfl
  · rw [c_law1 l2, x_b_some, if_neg (by decide : ¬ (1 : Int32) = 0), l1, if_neg (by decide : ¬ (1 : Int32) = 0), j5, t0, j1, r9]
    by_cases q1 : M 1 0 - M 1 (792 + 10 * j + 1) ≤ M 1 10
    · rw [if_pos q1, if_pos q1, if_pos rfl]
      by_cases q2 : M 1 (792 + 10 * j + 5) = 3
      · rw [if_pos q2, if_pos q2, if_neg (by decide : ¬ (1 : Int32) = 0)]
        exact hno rfl
      · rw [if_neg q2, if_neg q2, if_pos rfl, j0]
        obtain ⟨r, C', M', e1, e2, e3, e4, e5⟩ := w_sum (M 1 (792 + 10 * j + 1)) (M 1 0) hS l3 ⟨iP, iF, iD, iJ, iR⟩ hi
        simp (disch := omega) only [x_l, u_10, u_a1, u_a3, u_g, u_c, ei, e1, e2, x_b_some, x_uo, x_uj, x_us]
        exact q_mk rfl ((hN.scr e3 e4).setJ (f := 3) hj (by omega) (by omega) (fun _ => e5) (by omega) (by omega)).rel
    · rw [if_neg q1, if_neg q1, if_neg (by decide : ¬ (1 : Int32) = 0)]
      by_cases q2 : M 1 (792 + 10 * j + 5) = 3
      · rw [if_pos q2]
        exact hno rfl
      · rw [if_neg q2]
        exact hno rfl
theorem w_hours {C M : xM} {nP nF nD nJ t j i : Nat} (hS : r_St 1 0 C (M 1) nP nF nD nJ t) (hr : r_rows (C 26) (C 27) (fun k => M 1 (952 + k))) (hi : i_St (M 1) nP nF nD nJ t) (hj : j < nJ) (hip : i < nP) (ei : M 1 (792 + 10 * j) = nI i) : ∃ r C' M', fX8_hoursFor C (169 + j) = some (sp_bd r 0 9999, C') ∧ fX11_worked (x_up (x_up M 7 117 (sp_unpd (M 1) j)) 7 121 (if 1 ≤ M 1 (30 + 3 * i) ∧ M 1 (30 + 3 * i) ≤ 2 then 1 else 0)) 2 = some (r, M') ∧ (∀ a b, a ≠ 29 → a ≠ 30 → C' a b = C a b) ∧ (∀ a b, a ≠ 6 → a ≠ 7 → M' a b = M a b) := by
  obtain ⟨⟨⟨c0, c1, c2, c3, c4⟩, ⟨s0, s1, s2, s3, s4⟩, ⟨n1, n2, n3, n4, n5⟩⟩, gP, gF, gD, gJ, gR, gL⟩ := id hS
  obtain ⟨iP, iF, iD, iJ, iR⟩ := hi
  have j0 : C (169 + j) 0 = M 1 (792 + 10 * j) := (gJ j hj).1 0 (by decide)
  have kS : ∀ C' : xM, (∀ a b, a ≠ 29 → C' a b = C a b) → r_St 1 0 C' (M 1) nP nF nD nJ t := fun C' h => hS.keep (fun j => h _ _ (by omega)) (fun a j z => h a j (by omega))
  have hy : ∀ C' : xM, (∀ a b, a ≠ 29 → C' a b = C a b) → fX8_youth C' (nI i) = some ((if 1 ≤ M 1 (30 + 3 * i) ∧ M 1 (30 + 3 * i) ≤ 2 then 1 else 0), C') := fun C' h => by
    obtain ⟨_, kP, _⟩ := kS C' h
    exact c_yth hip n1 kP iP
  obtain ⟨r, C', M', e1, e2, e3, e4⟩ := w_out (C := x_up (x_up C 29 20 (sp_unpd (M 1) j)) 29 24 (if 1 ≤ M 1 (30 + 3 * i) ∧ M 1 (30 + 3 * i) ≤ 2 then 1 else 0))
    (M := x_up (x_up M 7 117 (sp_unpd (M 1) j)) 7 121 (if 1 ≤ M 1 (30 + 3 * i) ∧ M 1 (30 + 3 * i) ≤ 2 then 1 else 0)) (c := 2) (by omega)
    (hr.keep (fun j => by simp (disch := omega) only [x_uo, x_uj, x_us]) (fun j => by simp (disch := omega) only [x_uo, x_uj, x_us]) (fun j => by simp (disch := omega) only [x_uo, x_uj, x_us])) (fun l hl => by
      rcases hl with ⟨h, -⟩ | ⟨h, -⟩ | ⟨-, hl⟩
      · omega
      · omega
      · rcases hl with rfl | rfl <;> simp (disch := omega) only [x_uo, x_uj, x_us])
  refine ⟨r, C', M', ?_, e2, ?_, ?_⟩
  · unfold fX8_hoursFor
    have e1' : fX7_workOut _ 2 = _ := e1
    rw [c_unpd hj gJ, x_b_some, c_su, x_v_some]
    simp (disch := omega) only [x_uo, x_uj, x_us, j0, ei]
    rw [hy _ (fun a b h => by simp (disch := omega) only [x_uo, x_uj, x_us]), x_b_some, c_sy, x_v_some, e1', x_b_some, c_bd, x_b_some]
  · intro a b h1 h2
    rw [e3 _ _ h2]
    simp (disch := omega) only [x_uo, x_uj, x_us]
  · intro a b h1 h2
    rw [e4 _ _ h1]
    simp (disch := omega) only [x_uo, x_uj, x_us]
