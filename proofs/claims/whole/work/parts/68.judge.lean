theorem c_begin (C : xM) (k : Nat) (a b : Int32) : ∃ C', fX2_begin C k a b = some C' ∧ (∀ x y, x ≠ k → C' x y = C x y) ∧ ∀ y, y < 10 → C' k y = if y = 0 then a else if y = 1 then b else if y = 6 then b else 0 := by
  refine ⟨_, rfl, fun x y h => ?_, fun y hy => ?_⟩
  · simp (disch := omega) only [x_uo, x_uj, x_us]
  · rcases (show y = 0 ∨ y = 1 ∨ y = 2 ∨ y = 3 ∨ y = 4 ∨ y = 5 ∨ y = 6 ∨ y = 7 ∨ y = 8 ∨ y = 9 by omega) with rfl | rfl | rfl | rfl | rfl | rfl | rfl | rfl | rfl | rfl <;> (simp (disch := omega) only [x_uo, x_uj, x_us]; rfl)
theorem q_judge {C M : xM} (h : Rel C M) (a : Int32) : q_Stp (fX10_judge C a) (fX11_judge M a) := by
  obtain ⟨⟨nP, nF, nD, nJ, t, hS, hL, iP, iF, iD, iJ, iR⟩, hR⟩ := id h
  obtain ⟨⟨⟨c0, c1, c2, c3, c4⟩, ⟨s0, s1, s2, s3, s4⟩, ⟨n1, n2, n3, n4, n5⟩⟩, gP, gF, gD, gJ, gR, gL⟩ := id hS
  have hN : RelN C M nP nF nD nJ t := ⟨⟨hS, hL, iP, iF, iD, iJ, iR⟩, hR⟩
  unfold fX10_judge fX11_judge
  rw [c_hasPerson, p_isPerson, x_b_some, x_b_some]
  refine q_ck h (by rw [c1, s1]) (fun hp => ?_)
  rw [c1, u_has (by omega)] at hp
  obtain ⟨p, hp, rfl⟩ := hp
  rcases hL with ⟨l1, l2⟩ | ⟨l1, l2, l3⟩
  · rw [c_nolaw l2, x_b_some, if_pos rfl, l1, if_pos rfl]
    exact q_same h rfl rfl
  rw [c_law1 l2, x_b_some, if_neg (by decide : ¬ (1 : Int32) = 0), l1, if_neg (by decide : ¬ (1 : Int32) = 0)]
  obtain ⟨V, hV, vC, vM⟩ := w_val hS l3 ⟨iP, iF, iD, iJ, iR⟩
  obtain ⟨J, hJ, eJ⟩ := g_rule iR (j := 4) 100 (by decide) (by decide) (by decide)
  obtain ⟨T, hT, eT⟩ := g_rule iR (j := 5) 9999 (by decide) (by decide) (by decide)
  obtain ⟨M1, b1, b2⟩ := p_joined (p := p) s3 n3 eJ hJ eT hT hV vM
  have hx : fX8_hasOpenDeed C (nI p) = fX8_hasOpenDeed_L2 (nI p) x_FU C (nI 0) := rfl
  rcases b2 with ⟨ea, b2⟩ | ⟨d, ea, b2⟩
  · rw [b2, hx, c_hasOpen0 c3 n3 gD (j_A.none ea).2 x_FU 0 (by omega) (by rw [x_FU_eq]; omega), x_b_some, x_b_some, if_pos rfl, if_pos rfl]
    exact q_mk rfl (hN.scr (n_C.rf C) b1).rel
  obtain ⟨hd, od, -⟩ := j_A.some ea
  rw [b2, hx, c_hasOpen1 c3 n3 gD hd od x_FU 0 (by omega) (by rw [x_FU_eq]; omega), x_b_some, x_b_some, if_neg (by decide : ¬ (1 : Int32) = 0)]
  generalize hD : min (j_G (M 1) p V nD + j_X (M 1) p V J d nD) T = D at b2 ⊢
  have hD9 : D ≤ 9999 := by omega
  rw [if_neg (show ¬ nI D = (-1 : Int32) by rw [l_neg (by omega)]; exact id), (b1 1 20 (by omega) (by omega)).trans s4, c4]
  by_cases q16 : nJ = 16
  · rw [if_neg (by rw [q16]; decide), if_pos (by rw [q16]; rfl)]
    exact q_mk rfl (hN.scr (n_C.rf C) b1).rel
  have hJ16 : nJ < 16 := by omega
  rw [if_pos (by rw [kn16_lt (by omega)]; exact hJ16), if_neg (by rw [kn16_eq (by omega)]; exact q16)]
  obtain ⟨C1, a1, a2⟩ := c_joined (p := p) hS eJ hJ eT hT hV vC ea
  rw [hD] at a2
  obtain ⟨-, -, ⟨cu, hcu, ecu⟩⟩ := iP p hp
  have hN1 := hN.scr a1 b1
  have k2 : C1 (31 + p) 2 = nI cu := (a1 _ _ (by omega) (by omega)).trans ((gP p hp 2 (by decide)).trans ecu)
  have m2 : M1 1 (30 + 3 * p + 2) = nI cu := (b1 _ _ (by omega) (by omega)).trans ecu
  have hN2 := hN1.setP (c := cu - min D cu) hp (by omega)
  obtain ⟨C3, g1, g2, g3⟩ := c_begin (x_up C1 (31 + p) 2 (nI (cu - min D cu))) (169 + nJ) (nI p) (nI t)
  have hN3 := hN2.free (C' := x_up C3 (169 + nJ) 2 (nI (D - min D cu))) (M' := x_up (x_up (x_up (x_up (x_fl M1 1 (792 + 10 * nJ) (792 + 10 * nJ + 10) 0) 1 (30 + 3 * p + 2) (nI (cu - min D cu))) 1 (792 + 10 * nJ) (nI p)) 1 (792 + 10 * nJ + 1) (nI t)) 1 (792 + 10 * nJ + 2) (nI (D - min D cu))) hJ16 (fun x y z => by rw [x_uo z]; exact g2 x y z) (fun x y z => by
    by_cases z1 : x = 1
    · subst z1
      rw [x_uj (by omega), x_uj (by omega), x_uj (by omega)]
      by_cases z2 : y = 30 + 3 * p + 2
      · subst z2
        rw [x_us, x_us]
      · rw [x_uj z2, x_uj z2, x_fl_out (by omega)]
    · rw [x_uo z1, x_uo z1, x_uo z1, x_uo z1, x_uo z1, x_fl_ne z1])
  obtain ⟨⟨hS3, hL3, iP3, iF3, iD3, iJ3, iR3⟩, hR3⟩ := id hN3
  have l3' : r_rows (x_up C3 (169 + nJ) 2 (nI (D - min D cu)) 26) (x_up C3 (169 + nJ) 2 (nI (D - min D cu)) 27) (fun k => x_up (x_up (x_up (x_up (x_fl M1 1 (792 + 10 * nJ) (792 + 10 * nJ + 10) 0) 1 (30 + 3 * p + 2) (nI (cu - min D cu))) 1 (792 + 10 * nJ) (nI p)) 1 (792 + 10 * nJ + 1) (nI t)) 1 (792 + 10 * nJ + 2) (nI (D - min D cu)) 1 (952 + k)) := l3.keep (fun j => by rw [x_uo (by omega), g2 _ _ (by omega), x_uo (by omega)]; exact a1 _ _ (by omega) (by omega)) (fun j => by rw [x_uo (by omega), g2 _ _ (by omega), x_uo (by omega)]; exact a1 _ _ (by omega) (by omega)) (fun j => by
      rw [x_uj (by omega), x_uj (by omega), x_uj (by omega), x_uj (by omega), x_fl_out (by omega)]; exact b1 _ _ (by omega) (by omega))
  obtain ⟨r, C4, M4, e1, e2, e3, e4, su, hsu, rfl⟩ := w_sum (i := p) (nI t) (nI t) hS3 l3' ⟨iP3, iF3, iD3, iJ3, iR3⟩ hp
  have hN4 := hN3.scr e3 e4
  have hN5 := hN4.free (C' := x_up C4 (169 + nJ) 3 (nI su)) (M' := x_up (x_up M4 1 (792 + 10 * nJ + 3) (nI su)) 1 (792 + 10 * nJ + 6) (nI t)) hJ16 (fun x y z => x_uo z) (fun x y z => by
    by_cases z1 : x = 1
    · subst z1
      rw [x_uj (by omega), x_uj (by omega)]
    · rw [x_uo z1, x_uo z1])
  have cc : ∀ k, k < 10 → x_up C4 (169 + nJ) 3 (nI su) (169 + nJ) k = j_new p t (D - min D cu) su k := by
    intro k hk
    unfold j_new
    rcases (show k = 0 ∨ k = 1 ∨ k = 2 ∨ k = 3 ∨ k = 4 ∨ k = 5 ∨ k = 6 ∨ k = 7 ∨ k = 8 ∨ k = 9 by omega) with rfl | rfl | rfl | rfl | rfl | rfl | rfl | rfl | rfl | rfl <;> first | (rw [x_uj (by omega), e3 _ _ (by omega) (by omega), x_uj (by omega), g3 _ (by omega)]; rfl) | (rw [x_us]; rfl) | (rw [x_uj (by omega), e3 _ _ (by omega) (by omega), x_us]; rfl)
  have mm : ∀ k, k < 9 → x_up (x_up M4 1 (792 + 10 * nJ + 3) (nI su)) 1 (792 + 10 * nJ + 6) (nI t) 1 (792 + 10 * nJ + k) = j_new p t (D - min D cu) su k := by
    intro k hk
    unfold j_new
    rcases (show k = 0 ∨ k = 1 ∨ k = 2 ∨ k = 3 ∨ k = 6 ∨ (k = 4 ∨ k = 5 ∨ k = 7 ∨ k = 8) by omega) with rfl | rfl | rfl | rfl | rfl | k4
    · rw [x_uj (by omega), x_uj (by omega), e4 _ _ (by omega) (by omega), x_uj (by omega), x_uj (by omega)]
      exact x_us
    · rw [x_uj (by omega), x_uj (by omega), e4 _ _ (by omega) (by omega), x_uj (by omega), x_us]
      rfl
    · rw [x_uj (by omega), x_uj (by omega), e4 _ _ (by omega) (by omega), x_us]
      rfl
    · rw [x_uj (by omega), x_us]
      rfl
    · rw [x_us]
      rfl
    · rw [x_uj (by omega), x_uj (by omega), e4 _ _ (by omega) (by omega), x_uj (by omega), x_uj (by omega), x_uj (by omega), x_uj (by omega), x_fl_in (by omega) (by omega)]
      rcases k4 with rfl | rfl | rfl | rfl <;> rfl
  have hN6 := hN5.addJ hJ16 hp (by omega : D - min D cu ≤ 9999) hsu cc mm
  obtain ⟨C6, M6, f1, f2, f3, f4, f5⟩ := q_tk (p := p) (fun (M_43 : xM) => x_l (x_up M_43 1 20 ((M_43 1 20) + (1 : Int32))) fun M_46 => some (nI nJ, M_46)) x_FU 0 _ _ hN6 (by omega) (by rw [x_FU_eq]; omega)
  have x14 : C4 1 4 = nI nJ := hN4.1.1.1.1.2.2.2.2
  have y14 : M4 1 20 = nI nJ := hN4.1.1.1.2.1.2.2.2.2
  have g14 : C6 1 4 = nI nJ := by rw [f3, x_uo (by omega)]; exact x14
  have m20 : M6 1 20 = nI nJ := by rw [f4, x_uj (by omega), x_uj (by omega)]; exact y14
  have kt : C1 1 0 = nI t := (a1 _ _ (by omega) (by omega)).trans c0
  have kj : C1 1 4 = nI nJ := (a1 _ _ (by omega) (by omega)).trans c4
  refine ⟨nI nJ, x_up C6 1 4 (nI (nJ + 1)), x_up M6 1 20 (nI (nJ + 1)), ?_, ?_, f5.rel⟩
  · have c30 : C3 1 0 = nI t := (g2 _ _ (by omega)).trans ((x_uo (by omega)).trans kt)
    have f1' : fX8_takeOpenDeeds (x_up C4 (169 + nJ) 3 (nI su)) (nI p) (nI nJ) = some C6 := f1
    rw [a2, x_b_some, u_g (by omega) (by omega), u_c (by omega), k2, u_min (by omega) (by omega), x_lb, u_g (by omega) (by omega), x_lb, pk_sub (by omega), pk_sub (by omega)]
    simp (disch := omega) only [x_uo, x_uj, x_us, kj, kt, u_g, u_c]
    rw [g1, x_v_some, x_lb]
    simp (disch := omega) only [x_uo, x_uj, x_us, c30]
    rw [e1, x_b_some, x_lb]
    simp (disch := omega) only [x_uo, x_uj, x_us, x14]
    rw [f1', x_v_some, x_lb, g14, u_a1]
    simp (disch := omega) only [x_uo, x_uj, x_us, u_m1]
  · have mt : M1 1 0 = nI t := (b1 _ _ (by omega) (by omega)).trans s0
    have mt4 : M4 1 0 = nI t := hN4.1.1.1.2.1.1
    have um : (if nI cu ≤ nI D then nI cu else nI D) = nI (min D cu) := u_min' (by omega) (by omega)
    have um1 : nI cu - nI (min D cu) = nI (cu - min D cu) := pk_sub (by omega)
    have um2 : nI D - nI (min D cu) = nI (D - min D cu) := pk_sub (by omega)
    rw [x_lb, u_10, x_lb, x_lb]
    refine (p_j74 hJ16 _ x_FU 0 M1 (by omega) (by rw [x_FU_eq]; omega)).trans ?_
    simp (disch := omega) only [Nat.add_zero, u_3, u_a1, u_a2, u_a3, u_a6, Int32.add_zero, u_g, u_c, p_less, x_b_some, x_lb, x_fl_out, m2, mt, x_uo, x_uj, x_us, um, um1, um2, e2, mt4]
    refine Eq.trans ?_ (f2.trans ?_)
    · rfl
    · rw [x_lb, m20, u_a1]
