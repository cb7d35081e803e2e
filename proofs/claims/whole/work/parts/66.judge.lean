theorem p_j1 {M0 : xM} {nD p : Nat} {V : Nat → Nat} (hD : M0 1 19 = nI nD) (hn : nD ≤ 30) (hV : ∀ d, V d ≤ 999) (hv : ∀ M1, n_M M0 M1 → ∀ d, d < nD → ∃ M2, fX11_worthOf M1 (nI d) = some (nI (V d), M2) ∧ n_M M0 M2) (k : xM → Int32 → Int32 → Option (Int32 × xM)) : ∀ (fu i : Nat) (M : xM), n_M M0 M → i ≤ nD → nD - i < fu → ∃ M', n_M M0 M' ∧ fX11_joined_L7 (nI p) k fu M (nI (j_G (M0 1) p V i)) (sp_bi (j_A (M0 1) p V i)) (nI i) = k M' (nI (j_G (M0 1) p V nD)) (sp_bi (j_A (M0 1) p V nD)) := by
  intro fu
  induction fu with
  | zero => intro i C _ _ h; omega
  | succ fu ih =>
    intro i M hM hi hf
    have e1 : ∀ j, M 1 j = M0 1 j := fun j => hM 1 j (by omega) (by omega)
    rw [fX11_joined_L7, e1, hD]
    by_cases q : i = nD
    · subst q
      rw [if_pos (Int32.le_refl _)]
      exact ⟨M, hM, rfl⟩
    · rw [if_neg (u_lie (by omega) (by omega)), u_5, u_a1, u_g (by omega) (by omega), u_c (by omega), x_lb, e1, u_a4, u_c (by omega), e1]
      by_cases o : M0 1 (642 + 5 * i + 1) = nI p ∧ M0 1 (642 + 5 * i + 4) = -1
      · obtain ⟨M2, f1, f2⟩ := hv M hM i (by omega)
        have ih1 := ih (i + 1) M2 f2 (by omega) (by omega)
        rw [if_pos o.1, u_g (by omega) (by omega), if_pos o.2, f1, x_b_some]
        have b1 := j_G.le (s := M0 1) (p := p) hV i
        have b2 := hV i
        rw [j_G, if_pos o, j_A, if_pos o] at ih1
        cases ea : j_A (M0 1) p V i with
        | none =>
          rw [ea, (j_A.none ea).1] at ih1
          rw [(j_A.none ea).1]
          have e0 : (if 0 < V i then V i else 0) = V i := by split <;> omega
          rw [e0] at ih1
          simp only [x_lb, sp_bi, if_true]
          rw [u_a1]
          exact ih1
        | some a =>
          rw [ea] at ih1
          obtain ⟨ha, -, -⟩ := j_A.some ea
          have n1 : (nI a = (-1 : Int32)) = False := l_neg (by omega)
          by_cases z : j_G (M0 1) p V i < V i
          · simp only [if_pos z] at ih1
            have z1 : (nI (V i) ≤ nI (j_G (M0 1) p V i)) = False := eq_false (by rw [l_len (by omega) (by omega)]; omega)
            simp only [x_lb, sp_bi, n1, if_false, z1, if_true, u_a1]
            exact ih1
          · simp only [if_neg z] at ih1
            have z1 : (nI (V i) ≤ nI (j_G (M0 1) p V i)) = True := eq_true (by rw [l_len (by omega) (by omega)]; omega)
            have z2 : (nI a = nI i) = False := eq_false (by rw [l_eqn (by omega) (by omega)]; omega)
            simp only [x_lb, sp_bi, n1, if_false, z1, z2, if_true, u_a1]
            exact ih1
      · have ih1 := ih (i + 1) M hM (by omega) (by omega)
        rw [j_G, if_neg o, j_A, if_neg o] at ih1
        by_cases o1 : M0 1 (642 + 5 * i + 1) = nI p
        · rw [if_pos o1, u_g (by omega) (by omega), if_neg (fun z => o ⟨o1, z⟩)]
          simp only [x_lb, u_a1]
          exact ih1
        · rw [if_neg o1]
          simp only [x_lb, u_a1]
          exact ih1
theorem p_j2 {M0 : xM} {nD p J a x : Nat} {V : Nat → Nat} (hD : M0 1 19 = nI nD) (hn : nD ≤ 30) (ha : a < nD) (eJ : M0 1 5 = nI J) (hJ : J ≤ 100) (hV : ∀ d, V d ≤ 999) (hv : ∀ M1, n_M M0 M1 → ∀ d, d < nD → ∃ M2, fX11_worthOf M1 (nI d) = some (nI (V d), M2) ∧ n_M M0 M2) (k : xM → Int32 → Option (Int32 × xM)) : ∀ (fu i : Nat) (M : xM), n_M M0 M → i ≤ nD → nD - i < fu → ∃ M', n_M M0 M' ∧ fX11_joined_L118 (nI p) (nI a) k fu M (nI (x + j_X (M0 1) p V J a i)) (nI i) = k M' (nI (x + j_X (M0 1) p V J a nD)) := by
  intro fu
  induction fu with
  | zero => intro i C _ _ h; omega
  | succ fu ih =>
    intro i M hM hi hf
    have e1 : ∀ j, M 1 j = M0 1 j := fun j => hM 1 j (by omega) (by omega)
    rw [fX11_joined_L118, e1, hD]
    by_cases q : i = nD
    · subst q
      rw [if_pos (Int32.le_refl _)]
      exact ⟨M, hM, rfl⟩
    · rw [if_neg (u_lie (by omega) (by omega)), u_5, u_a1, u_g (by omega) (by omega), u_c (by omega), x_lb, e1, u_a4, u_c (by omega), e1]
      by_cases o1 : M0 1 (642 + 5 * i + 1) = nI p
      · rw [if_pos o1, u_g (by omega) (by omega)]
        by_cases o2 : M0 1 (642 + 5 * i + 4) = -1
        · rw [if_pos o2]
          by_cases e : i = a
          · have ih1 := ih (i + 1) M hM (by omega) (by omega)
            rw [j_X, if_neg (fun z => z.2.2 e)] at ih1
            rw [if_pos (by rw [e])]
            simp only [x_lb, u_a1]
            exact ih1
          · obtain ⟨M2, f1, f2⟩ := hv M hM i (by omega)
            have ih1 := ih (i + 1) M2 f2 (by omega) (by omega)
            rw [j_X, if_pos ⟨o1, o2, e⟩, ← Nat.add_assoc] at ih1
            rw [if_neg (by rw [l_eqn (by omega) (by omega)]; exact e), f1, x_b_some]
            have u4 : M2 1 5 = nI J := (f2 _ _ (by omega) (by omega)).trans eJ
            simp only [x_lb, u_a1, u4, j_share (hV i) hJ, nI_add]
            exact ih1
        · have ih1 := ih (i + 1) M hM (by omega) (by omega)
          rw [j_X, if_neg (fun z => o2 z.2.1)] at ih1
          rw [if_neg o2]
          simp only [x_lb, u_a1]
          exact ih1
      · have ih1 := ih (i + 1) M hM (by omega) (by omega)
        rw [j_X, if_neg (fun z => o1 z.1)] at ih1
        rw [if_neg o1]
        simp only [x_lb, u_a1]
        exact ih1
theorem n_M.rf (M : xM) : n_M M M := fun _ _ _ _ => rfl
theorem n_C.rf (M : xM) : n_C M M := fun _ _ _ _ => rfl
theorem u_min {a b : Nat} (ha : a < 2 ^ 31) (hb : b < 2 ^ 31) : (if nI b < nI a then nI b else nI a) = nI (min a b) := by
  simp only [l_ltn hb ha]
  by_cases h : b < a
  · rw [if_pos h, Nat.min_eq_right (by omega)]
  · rw [if_neg h, Nat.min_eq_left (by omega)]
theorem u_min' {a b : Nat} (ha : a < 2 ^ 31) (hb : b < 2 ^ 31) : (if nI b ≤ nI a then nI b else nI a) = nI (min a b) := by
  rw [← u_mn]
  exact u_min ha hb
theorem p_joined {M : xM} {nD p J T : Nat} {V : Nat → Nat} (hD : M 1 19 = nI nD) (hn : nD ≤ 30) (eJ : M 1 5 = nI J) (hJ : J ≤ 100) (eT : M 1 6 = nI T) (hT : T ≤ 9999) (hV : ∀ d, V d ≤ 999) (hv : ∀ M1, n_M M M1 → ∀ d, d < nD → ∃ M2, fX11_worthOf M1 (nI d) = some (nI (V d), M2) ∧ n_M M M2) : ∃ M', n_M M M' ∧ ((j_A (M 1) p V nD = none ∧ fX11_joined M (nI p) = some (-1, M')) ∨ ∃ a, j_A (M 1) p V nD = some a ∧ fX11_joined M (nI p) = some (nI (min (j_G (M 1) p V nD + j_X (M 1) p V J a nD) T), M')) := by
  obtain ⟨M1, a1, a2⟩ := p_j1 (p := p) hD hn hV hv (fun (M_4 : xM) (x2_1 : Int32) (x3_2 : Int32) => if x3_2 = (-1 : Int32) then (some ((-1 : Int32), M_4)) else (x_l (fun (M_8 : xM) (x4_6 : Int32) => x_b (fX11_less M_8 x4_6 (M_8 1 6)) fun v_12 M_10 => some (v_12, M_10)) fun k204_7 => fX11_joined_L118 (nI p) x3_2 k204_7 x_FU M_4 x2_1 (0 : Int32))) x_FU 0 M (n_M.rf M) (by omega) (by rw [x_FU_eq]; omega)
  have a3 : fX11_joined M (nI p) = _ := Eq.trans (by unfold fX11_joined; rfl) a2
  cases ea : j_A (M 1) p V nD with
  | none =>
    rw [ea] at a3
    exact ⟨M1, a1, Or.inl ⟨rfl, a3⟩⟩
  | some a =>
    rw [ea] at a3
    obtain ⟨ha, -, -⟩ := j_A.some ea
    obtain ⟨M2, b1, b2⟩ := p_j2 (p := p) (x := j_G (M 1) p V nD) hD hn ha eJ hJ hV hv (fun (M_8 : xM) (x4_6 : Int32) => x_b (fX11_less M_8 x4_6 (M_8 1 6)) fun v_12 M_10 => some (v_12, M_10)) x_FU 0 M1 a1 (by omega) (by rw [x_FU_eq]; omega)
    refine ⟨M2, b1, Or.inr ⟨a, rfl, ?_⟩⟩
    rw [a3]
    refine Eq.trans (if_neg (by show ¬ nI a = -1; rw [l_neg (by omega)]; exact id)) ?_
    refine (Eq.trans ?_ b2).trans ?_
    · rfl
    · have c1 := j_G.le (s := M 1) (p := p) hV nD
      have c2 := j_X.le (s := M 1) (p := p) (a := a) hV hJ nD
      rw [p_less, x_b_some, (b1 1 6 (by omega) (by omega)).trans eT, u_min' (by omega) (by omega)]
theorem c_joined {C : xM} {s : Nat → Int32} {nP nF nD nJ t p J T : Nat} {V : Nat → Nat} (hS : r_St 1 0 C s nP nF nD nJ t) (eJ : s 5 = nI J) (hJ : J ≤ 100) (eT : s 6 = nI T) (hT : T ≤ 9999) (hV : ∀ d, V d ≤ 999) (hv : ∀ C1, n_C C C1 → ∀ d, d < nD → ∃ C2, fX8_daysFor C1 (139 + d) = some (nI (V d), C2) ∧ n_C C C2) {a : Nat} (ha : j_A s p V nD = some a) : ∃ C', n_C C C' ∧ fX8_joinedDays C (nI p) = some (nI (min (j_G s p V nD + j_X s p V J a nD) T), C') := by
  obtain ⟨⟨⟨c0, c1, c2, c3, c4⟩, ⟨s0, s1, s2, s3, s4⟩, ⟨n1, n2, n3, n4, n5⟩⟩, gP, gF, gD, gJ, gR, gL⟩ := id hS
  obtain ⟨C1, a1, a2⟩ := c_jd (p := p) hS eJ hJ hV hv (fun (M_4 : xM) (x2_1 : Int32) (x3_2 : Int32) => x_b (fX8_joinedShare M_4 x2_1) fun v_7 M_5 => some ((if (M_5 23 5) < ((x2_1 + x3_2) - v_7) then (M_5 23 5) else ((x2_1 + x3_2) - v_7)), M_5)) x_FU 0 C (n_C.rf C) (by omega) (by rw [x_FU_eq]; omega)
  refine ⟨C1, a1, (Eq.trans ?_ a2).trans ?_⟩
  · unfold fX8_joinedDays; rfl
  · obtain ⟨h1, h2, h3⟩ := j_A.some ha
    have h4 := j_X.eq h2 (V := V) (J := J) nD
    rw [if_pos h1] at h4
    have c1 := j_G.le (s := s) (p := p) hV nD
    have c2 := j_X.le (s := s) (p := p) (a := a) hV hJ nD
    have c3 := j_S.le (s := s) (p := p) hV hJ nD
    have u4 : C1 23 4 = nI J := ((a1 _ _ (by omega) (by omega)).trans (gR 4 (by decide))).trans eJ
    have u5 : C1 23 5 = nI T := ((a1 _ _ (by omega) (by omega)).trans (gR 5 (by decide))).trans eT
    unfold fX8_joinedShare
    rw [x_b_some, u4, u5, j_share c1 hJ, nI_add, h3, pk_sub (by omega), show V a + j_S s p V J nD - V a * J / 100 = V a + j_X s p V J a nD by omega, u_min (by omega) (by omega)]
theorem c_hasOpen0 {C : xM} {s : Nat → Int32} {nD p : Nat} (hD : C 1 3 = nI nD) (hn : nD ≤ 30) (gD : r_D 0 C s nD) (h : ∀ d, d < nD → ¬ (s (642 + 5 * d + 1) = nI p ∧ s (642 + 5 * d + 4) = -1)) : ∀ (fu i : Nat), i ≤ nD → nD - i < fu → fX8_hasOpenDeed_L2 (nI p) fu C (nI i) = some (0, C) := by
  intro fu
  induction fu with
  | zero => intro i _ h; omega
  | succ fu ih =>
    intro i hi hf
    rw [fX8_hasOpenDeed_L2, hD]
    by_cases q : i = nD
    · subst q
      rw [if_pos (Int32.le_refl _)]
    · have d1 : C (139 + i) 1 = s (642 + 5 * i + 1) := gD i (by omega) 1 (by decide)
      have d4 : C (139 + i) 4 = s (642 + 5 * i + 4) := gD i (by omega) 4 (by decide)
      rw [if_neg (u_lie (by omega) (by omega)), u_g (by omega) (by omega), u_c (by omega), c_openOf, x_b_some, d1, d4, if_neg (h i (by omega)), if_pos rfl, x_lb, u_a1]
      exact ih (i + 1) (by omega) (by omega)
theorem c_hasOpen1 {C : xM} {s : Nat → Int32} {nD p a : Nat} (hD : C 1 3 = nI nD) (hn : nD ≤ 30) (gD : r_D 0 C s nD) (ha : a < nD) (h : s (642 + 5 * a + 1) = nI p ∧ s (642 + 5 * a + 4) = -1) : ∀ (fu i : Nat), i ≤ a → nD - i < fu → fX8_hasOpenDeed_L2 (nI p) fu C (nI i) = some (1, C) := by
  intro fu
  induction fu with
  | zero => intro i _ h; omega
  | succ fu ih =>
    intro i hi hf
    have d1 : C (139 + i) 1 = s (642 + 5 * i + 1) := gD i (by omega) 1 (by decide)
    have d4 : C (139 + i) 4 = s (642 + 5 * i + 4) := gD i (by omega) 4 (by decide)
    rw [fX8_hasOpenDeed_L2, hD, if_neg (u_lie (by omega) (by omega)), u_g (by omega) (by omega), u_c (by omega), c_openOf, x_b_some, d1, d4]
    by_cases o : s (642 + 5 * i + 1) = nI p ∧ s (642 + 5 * i + 4) = -1
    · rw [if_pos o, if_neg (by decide : ¬ (1 : Int32) = 0)]
    · rw [if_neg o, if_pos rfl, x_lb, u_a1]
      have : i ≠ a := fun e => o (by rw [e]; exact h)
      exact ih (i + 1) (by omega) (by omega)
