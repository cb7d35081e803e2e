theorem r_J.bits {b n : Nat} {C : xM} {s : Nat → Int32} (h : r_J b C s n) {i : Nat} (hi : i < n) : (C (169 + i + b) 8 = 0 ∨ C (169 + i + b) 8 = 1) ∧ (C (169 + i + b) 9 = 0 ∨ C (169 + i + b) 9 = 1) := by
  obtain ⟨-, h2, h3⟩ := h i hi
  rw [h2, h3]
  constructor
  · split
    · exact Or.inr rfl
    · exact Or.inl rfl
  · split
    · exact Or.inr rfl
    · exact Or.inl rfl
theorem r_Tp.keep {C C' M M' : xM} (h : r_Tp C M) (h1 : C' 11 1 = C 11 1) (h2 : ∀ j, C' 14 j = C 14 j) (g1 : M' 0 4 = M 0 4) (g2 : ∀ j, M' 3 j = M 3 j) : r_Tp C' M' := by
  obtain ⟨n, t1, t2, t3, t4⟩ := h
  exact ⟨n, t1, g1.trans t2, h1.trans t3, fun i hi => by rw [h2, g2]; exact t4 i hi⟩
theorem r_Wt.keep {C C' M M' : xM} (h : r_Wt C M) (h1 : C' 0 6 = C 0 6) (h2 : ∀ j, C' 5 j = C 5 j) (g1 : M' 0 27 = M 0 27) (g2 : ∀ j, M' 12 j = M 12 j) : r_Wt C' M' := by
  obtain ⟨n, t1, t2, t3, t4⟩ := h
  exact ⟨n, t1, g1.trans t2, h1.trans t3, fun i hi => by rw [h2, g2]; exact t4 i hi⟩
theorem r_S1.keep {z : Nat} {C C' M M' : xM} (h : r_S1 z C M) (h7 : ∀ j, C' 7 j = C 7 j) (h8 : ∀ j, C' 8 j = C 8 j) (h9 : ∀ j, C' (9 + z) j = C (9 + z) j) (g1 : ∀ j, M' 14 j = M 14 j) (g2 : ∀ j, M' 13 j = M 13 j) : r_S1 z C' M' := by
  unfold r_S1 at h ⊢
  simp only [h7, h8, h9, g1, g2]
  exact h
theorem q_keep {C M : xM} (h : Rel C M) : q_Stp (fX10_keep C) (fX11_keep M) := by
  obtain ⟨⟨nP, nF, nD, nJ, t, hF⟩, hR⟩ := id h
  obtain ⟨⟨⟨⟨c0, c1, c2, c3, c4⟩, ⟨s0, s1, s2, s3, s4⟩, ⟨n1, n2, n3, n4, n5⟩⟩, gP, gF, gD, gJ, gR, gL⟩, hL, hI⟩ := id hF
  obtain ⟨rI, rT, rW, rs0, rs1⟩ := hR
  unfold fX10_keep fX11_keep
  rw [c_becK c1 c2 c3 c4 n1 n2 n3 n4 (fun i hi => gJ.bits hi), x_v_some]
  have h2 : x_two 2 1 166 0 := Or.inr ⟨rfl, rfl, rfl, rfl⟩
  have e := p_kp (M := M) (d := 2) (s := 1) (by decide) fX11_keep_L2 (fun k n N x => by rw [fX11_keep_L2]) (fun (M_2 : xM) => x_l (x_up M_2 0 2 (1 : Int32)) fun M_3 => some ((M_3 1 0), M_3)) x_FU 0 (Nat.zero_le _) (by rw [x_FU_eq]; omega)
  rw [x_ft_0, nI_0] at e
  have bo := fun a b => b_out (C := C) (k0 := 2) (a1 := 1) (bd := 166) (bs := 0) (nP := nP) (nF := nF) (nD := nD) (nJ := nJ) (a := a) (b := b) h2 n1 n2 n3 n4
  refine ⟨nI t, x_up (x_bec C 2 1 166 0 nP nF nD nJ) 0 2 1, x_up (x_ft M 2 0 1675 fun x => M 1 x) 0 2 1, ?_, (Eq.trans ?_ e).trans ?_, ?_⟩
  · simp only [x_l]
    rw [x_uo (by decide), bo 1 0 (by decide) (by omega), c0]
  · rfl
  · simp only [x_l]
    rw [x_uo (by decide), x_ft_ne (by decide), s0]
  · have m1 : x_up (x_ft M 2 0 1675 fun x => M 1 x) 0 2 1 1 = M 1 := funext fun j => by rw [x_uo (by decide), x_ft_ne (by decide)]
    have mo : ∀ a b, a ≠ 2 → ¬ (a = 0 ∧ b = 2) → x_up (x_ft M 2 0 1675 fun x => M 1 x) 0 2 1 a b = M a b := by
      intro a b q1 q2
      by_cases q3 : a = 0
      · subst q3
        rw [x_uj (fun e => q2 ⟨rfl, e⟩), x_ft_ne (by decide)]
      · rw [x_uo q3, x_ft_ne q1]
    have co : ∀ a b, a ≠ 2 → a < 185 → ¬ (a = 0 ∧ b = 2) → x_up (x_bec C 2 1 166 0 nP nF nD nJ) 0 2 1 a b = C a b := by
      intro a b q1 q2 q3
      by_cases q4 : a = 0
      · subst q4
        rw [x_uj (fun e => q3 ⟨rfl, e⟩), bo 0 b (by decide) (by omega)]
      · rw [x_uo q4, bo a b q1 (by omega)]
    refine ⟨⟨nP, nF, nD, nJ, t, ?_⟩, Or.inr ⟨x_us, x_us, nP, nF, nD, nJ, t, ?_⟩, rT.keep (co _ _ (by decide) (by decide) (by decide)) (fun j => co _ _ (by decide) (by decide) (by omega)) (mo _ _ (by decide) (by decide)) (fun j => mo _ _ (by decide) (by omega)), rW.keep (co _ _ (by decide) (by decide) (by decide)) (fun j => co _ _ (by decide) (by decide) (by omega)) (mo _ _ (by decide) (by decide)) (fun j => mo _ _ (by decide) (by omega)), rs0.keep (fun j => co _ _ (by decide) (by decide) (by omega)) (fun j => co _ _ (by decide) (by decide) (by omega)) (fun j => co _ _ (by decide) (by decide) (by omega)) (fun j => mo _ _ (by decide) (by omega)) (fun j => mo _ _ (by decide) (by omega)), rs1.keep (fun j => co _ _ (by decide) (by decide) (by omega)) (fun j => co _ _ (by decide) (by decide) (by omega)) (fun j => co _ _ (by decide) (by decide) (by omega)) (fun j => mo _ _ (by decide) (by omega)) (fun j => mo _ _ (by decide) (by omega))⟩
    · rw [m1]
      exact ⟨hF.1.keep (fun j => co _ _ (by decide) (by decide) (by omega)) (fun a j q => co _ _ (by omega) (by omega) (by omega)), hL.keep (fun a j q => co _ _ (by omega) (by omega) (by omega)), hI⟩
    · have hb := r_Full.bec h2 hF
      have hk : r_Full 2 166 (x_up (x_bec C 2 1 166 0 nP nF nD nJ) 0 2 1) (M 1) nP nF nD nJ t := ⟨hb.1.keep (fun j => x_uo (by decide)) (fun a j q => x_uo (by omega)), hb.2.1.keep (fun a j q => x_uo (by omega)), hI⟩
      refine hk.cong (fun j hj => ?_)
      rw [x_uo (by decide), x_ft_in (Nat.zero_le _) (by omega), Nat.sub_zero]
theorem q_again {C M : xM} (h : Rel C M) : q_Stp (fX10_again C) (fX11_again M) := by
  obtain ⟨-, rI, rT, rW, rs0, rs1⟩ := id h
  unfold fX10_again fX11_again
  rcases id rI with ⟨e1, e2⟩ | ⟨e1, e2, nP, nF, nD, nJ, t, hF⟩
  · rw [e1, e2, if_pos rfl, if_pos rfl]
    exact q_same h rfl rfl
  · rw [e1, e2, if_neg (by decide), if_neg (by decide)]
    obtain ⟨⟨⟨⟨c0, c1, c2, c3, c4⟩, ⟨s0, s1, s2, s3, s4⟩, ⟨n1, n2, n3, n4, n5⟩⟩, gP, gF, gD, gJ, gR, gL⟩, hL, hI⟩ := id hF
    rw [c_becA c1 c2 c3 c4 n1 n2 n3 n4 (fun i hi => by
      have := gJ.bits hi
      rw [show 169 + i + 166 = 335 + i by omega] at this
      exact this), x_v_some]
    have h2 : x_two 1 2 0 166 := Or.inl ⟨rfl, rfl, rfl, rfl⟩
    have e := p_kp (M := M) (d := 1) (s := 2) (by decide) fX11_again_L12 (fun k n N x => by rw [fX11_again_L12]) (fun (M_3 : xM) => some ((M_3 1 0), M_3)) x_FU 0 (Nat.zero_le _) (by rw [x_FU_eq]; omega)
    rw [x_ft_0, nI_0] at e
    have bo := fun a b => b_out (C := C) (k0 := 1) (a1 := 2) (bd := 0) (bs := 166) (nP := nP) (nF := nF) (nD := nD) (nJ := nJ) (a := a) (b := b) h2 n1 n2 n3 n4
    refine ⟨nI t, x_bec C 1 2 0 166 nP nF nD nJ, x_ft M 1 0 1675 fun x => M 2 x, ?_, (Eq.trans ?_ e).trans ?_, ?_⟩
    · rw [b_k0 h2 n1 n2 n3 n4 (by decide), c0]
    · rfl
    · rw [x_ft_in (Nat.zero_le _) (by decide), Nat.sub_zero, s0]
    · have mo : ∀ a b, a ≠ 1 → (x_ft M 1 0 1675 fun x => M 2 x) a b = M a b := fun a b q => x_ft_ne q
      refine ⟨⟨nP, nF, nD, nJ, t, ?_⟩, rI.keep (bo _ _ (by decide) (by decide)) (fun j => bo _ _ (by decide) (by decide)) (fun a j q => bo _ _ (by omega) (by omega)) (mo _ _ (by decide)) (fun j => mo _ _ (by decide)), rT.keep (bo _ _ (by decide) (by decide)) (fun j => bo _ _ (by decide) (by decide)) (mo _ _ (by decide)) (fun j => mo _ _ (by decide)), rW.keep (bo _ _ (by decide) (by decide)) (fun j => bo _ _ (by decide) (by decide)) (mo _ _ (by decide)) (fun j => mo _ _ (by decide)), rs0.keep (fun j => bo _ _ (by decide) (by decide)) (fun j => bo _ _ (by decide) (by decide)) (fun j => bo _ _ (by decide) (by decide)) (fun j => mo _ _ (by decide)) (fun j => mo _ _ (by decide)), rs1.keep (fun j => bo _ _ (by decide) (by decide)) (fun j => bo _ _ (by decide) (by decide)) (fun j => bo _ _ (by decide) (by decide)) (fun j => mo _ _ (by decide)) (fun j => mo _ _ (by decide))⟩
      refine (r_Full.bec h2 hF).cong (fun j hj => ?_)
      rw [x_ft_in (Nat.zero_le _) (by omega), Nat.sub_zero]
