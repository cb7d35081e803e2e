theorem q_alike {C M : xM} (h : Rel C M) (a b : Int32) : q_Stp (fX10_alike C a b) (fX11_alike M a b) := by
  obtain ⟨⟨nP, nF, nD, nJ, t, hS, hL, iP, iF, iD, iJ, iR⟩, hR⟩ := id h
  obtain ⟨⟨⟨c0, c1, c2, c3, c4⟩, ⟨s0, s1, s2, s3, s4⟩, ⟨n1, n2, n3, n4, n5⟩⟩, gP, gF, gD, gJ, gR, gL⟩ := id hS
  unfold fX10_alike fX11_alike
  rw [c_hasJudgment, p_isJudgment, x_b_some, x_b_some]
  refine q_ck h (by rw [c4, s4]) (fun hp => ?_)
  rw [c4, u_has (by omega)] at hp
  obtain ⟨i, hi, rfl⟩ := hp
  rw [c_hasJudgment, p_isJudgment, x_b_some, x_b_some]
  refine q_ck h (by rw [c4, s4]) (fun hp => ?_)
  rw [c4, u_has (by omega)] at hp
  obtain ⟨j, hj, rfl⟩ := hp
  refine q_itp h (fun hne => ?_)
  obtain ⟨r1, a1, a2, a3⟩ := c_al c3 n3 hi hj n4 n1 gD gP gJ iP iD iJ
  obtain ⟨r2, b1, b2, b3⟩ := p_al s3 n3 hi hj n4 n1 iJ
  have e : r1 = r2 := by
    have := a3.trans b3.symm
    rcases a1 with rfl | rfl <;> rcases b1 with rfl | rfl <;> simp_all
  subst e
  rw [a2, b2, x_b_some, x_b_some, c_oneIf, x_b_some]
  rcases a1 with rfl | rfl
  · exact q_same h rfl rfl
  · exact q_same h rfl rfl
theorem q_unlI {C M : xM} {nP nF nD nJ t i : Nat} (hN : RelN C M nP nF nD nJ t) (hi : i < nJ) (kc kr : xM → Int32 → Int32 → Option (Int32 × xM)) (hk : ∀ x y, q_Stp (kc C x y) (kr M y x)) : ∀ (fu j : Nat) (x y : Int32), j ≤ nJ → nJ - j < fu → q_Stp (fX10_unlike_L23 (nI i) kc fu C x y (nI j)) (fX11_unlike_L23 (nI i) kr fu M y x (nI j)) := by
  obtain ⟨⟨hS, hL, iP, iF, iD, iJ, iR⟩, hR⟩ := id hN
  obtain ⟨⟨⟨c0, c1, c2, c3, c4⟩, ⟨s0, s1, s2, s3, s4⟩, ⟨n1, n2, n3, n4, n5⟩⟩, gP, gF, gD, gJ, gR, gL⟩ := id hS
  intro fu
  induction fu with
  | zero => intro j x y _ hf; omega
  | succ n ih =>
    intro j x y hj hf
    rw [fX10_unlike_L23, fX11_unlike_L23, c4, s4]
    by_cases q : j = nJ
    · subst q
      rw [if_pos (Int32.le_refl _), if_pos (Int32.le_refl _)]
      exact hk x y
    · have hj2 : j < nJ := by omega
      rw [if_neg (u_lie hj2 (by omega)), if_neg (u_lie hj2 (by omega))]
      have j2 : C (169 + i) 2 = M 1 (792 + 10 * i + 2) := (gJ i hi).1 2 (by decide)
      have j2' : C (169 + j) 2 = M 1 (792 + 10 * j + 2) := (gJ j hj2).1 2 (by decide)
      obtain ⟨r1, a1, a2, a3⟩ := c_al c3 n3 hi hj2 n4 n1 gD gP gJ iP iD iJ
      obtain ⟨r2, b1, b2, b3⟩ := p_al s3 n3 hi hj2 n4 n1 iJ
      have e : r1 = r2 := by
        have := a3.trans b3.symm
        rcases a1 with rfl | rfl <;> rcases b1 with rfl | rfl <;> simp_all
      subst e
      simp (maxSteps := 1000000) (disch := omega) only [x_l, u_10, u_a1, u_a2, u_g, u_c, p_size, x_b_some, a2, b2, j2, j2', Int32.zero_sub]
      generalize (if 0 ≤ M 1 (792 + 10 * i + 2) - M 1 (792 + 10 * j + 2) then M 1 (792 + 10 * i + 2) - M 1 (792 + 10 * j + 2) else -(M 1 (792 + 10 * i + 2) - M 1 (792 + 10 * j + 2))) = w
      by_cases q1 : w ≤ x
      · rw [if_pos q1, if_pos q1]
        exact ih (j + 1) x y (by omega) (by omega)
      · rw [if_neg q1, if_neg q1]
        rcases a1 with rfl | rfl
        · exact ih (j + 1) x y (by omega) (by omega)
        · exact ih (j + 1) w _ (by omega) (by omega)
theorem q_unlO {C M : xM} {nP nF nD nJ t : Nat} (hN : RelN C M nP nF nD nJ t) : ∀ (fu i : Nat) (x y : Int32), i ≤ nJ → nJ - i < fu → q_Stp (fX10_unlike_L7 fu C x y (nI i)) (fX11_unlike_L7 fu M y x (nI i)) := by
  obtain ⟨⟨hS, hL, iP, iF, iD, iJ, iR⟩, hR⟩ := id hN
  obtain ⟨⟨⟨c0, c1, c2, c3, c4⟩, ⟨s0, s1, s2, s3, s4⟩, ⟨n1, n2, n3, n4, n5⟩⟩, gP, gF, gD, gJ, gR, gL⟩ := id hS
  intro fu
  induction fu with
  | zero => intro j x y _ hf; omega
  | succ n ih =>
    intro i x y hi hf
    rw [fX10_unlike_L7, fX11_unlike_L7, c4, s4]
    by_cases q : i = nJ
    · subst q
      rw [if_pos (Int32.le_refl _), if_pos (Int32.le_refl _)]
      exact q_same hN.rel rfl rfl
    · have hi2 : i < nJ := by omega
      rw [if_neg (u_lie hi2 (by omega)), if_neg (u_lie hi2 (by omega)), u_a1]
      refine q_unlI hN hi2 _ _ (fun x y => ?_) x_FU (i + 1) x y (by omega) (by rw [x_FU_eq]; omega)
      exact ih (i + 1) x y (by omega) (by omega)
theorem q_unlike {C M : xM} (h : Rel C M) : q_Stp (fX10_unlike C) (fX11_unlike M) := by
  obtain ⟨⟨nP, nF, nD, nJ, t, hF⟩, hR⟩ := id h
  have n4 := hF.1.1.2.2.2.2.2.1
  exact q_unlO ⟨hF, hR⟩ x_FU 0 0 (-1000000005) (Nat.zero_le _) (by rw [x_FU_eq]; omega)
/-! spread -/
theorem b_sm {f : Nat → Int32} {c : Nat} : ∀ {n : Nat}, n * c < 2 ^ 31 → (∀ i, i < n → ∃ v, v ≤ c ∧ f i = nI v) → ∃ v, v ≤ n * c ∧ sm f n = nI v
  | 0, _, _ => ⟨0, by omega, rfl⟩
  | n + 1, h, hf => by
    have e : (n + 1) * c = n * c + c := Nat.succ_mul n c
    obtain ⟨v, hv, ev⟩ := b_sm (n := n) (by omega) (fun i hi => hf i (by omega))
    obtain ⟨w, hw, ew⟩ := hf n (by omega)
    exact ⟨v + w, by omega, by rw [sm, ev, ew, nI_add]⟩
theorem b_flat {s : Nat → Int32} {nP nD nJ : Nat} (j : Int32) (hn : nD ≤ 30) (iD : i_D s nP nD nJ) (iR : i_R s) : ∃ v, v ≤ 299970 ∧ sp_flat s nD j = nI v := by
  rw [sp_flat_eq s j (fun d hd => (iD d hd).1)]
  obtain ⟨v, hv, e⟩ := b_sm (c := 9999) (f := fun d => if s (642 + 5 * d + 4) = j then s (24 + (s (642 + 5 * d)).toNatClampNeg) else 0) (n := nD) (by omega) (fun d hd => by
    obtain ⟨⟨k, hk, ek⟩, -⟩ := iD d hd
    show ∃ v, v ≤ 9999 ∧ (if s (642 + 5 * d + 4) = j then s (24 + (s (642 + 5 * d)).toNatClampNeg) else 0) = nI v
    split
    · rw [ek, u_c (by omega)]
      exact iR.2 k (by omega)
    · exact ⟨0, by omega, rfl⟩)
  exact ⟨v, by omega, e⟩
theorem b_shv {e c : Nat} (he : e ≤ 99999) (hc : c ≤ 99980001) : ∃ v, v ≤ 9999999 ∧ sp_shv (nI e) (nI c) = nI v := by
  unfold sp_shv
  have e1 : (if 1 ≤ nI e then nI e else 1 : Int32) = nI (max 1 e) := by
    by_cases q : 1 ≤ e
    · rw [if_pos (by rw [kn1_el (by omega)]; exact q), Nat.max_eq_right q]
    · rw [if_neg (by rw [kn1_el (by omega)]; exact q), Nat.max_eq_left (by omega)]
      rfl
  rw [e1, nI_l (by omega), nI_l (by omega), show (1000 : Int64) = lN 1000 from rfl, lN_mul, pk_lDiv (by omega) (by omega) (by omega), show (9999999 : Int64) = lN 9999999 from rfl]
  have hd : 1000 * c / max 1 e ≤ 1000 * c := Nat.div_le_self _ _
  by_cases q : 1000 * c / max 1 e ≤ 9999999
  · rw [if_pos ((pk_lLE (by omega) (by omega)).mpr q), lN_i]
    exact ⟨_, q, rfl⟩
  · rw [if_neg (fun z => q ((pk_lLE (by omega) (by omega)).mp z))]
    exact ⟨9999999, by omega, rfl⟩
theorem b_share {s : Nat → Int32} {nF j c : Nat} (hc : c ≤ 99980001) (iF : i_F s nF) (iR : i_R s) : ∃ v, v ≤ 9999999 ∧ sp_share s nF j (nI c) = nI v := by
  unfold sp_share
  obtain ⟨e, he, ee⟩ := b_earn (s (792 + 10 * j)).toNatClampNeg (s (792 + 10 * j + 1)) (s (792 + 10 * j + 1)) iF iR
  rw [ee]
  exact b_shv he hc
theorem q_sprL {C M : xM} {nP nF nD nJ t : Nat} (hN : RelN C M nP nF nD nJ t) (a : Int32) (kc kr : xM → Int32 → Int32 → Option (Int32 × xM)) (hk : ∀ g l l' : Int32, ((l' = -1 ∧ l = 9999999 ∧ g = 0) ∨ ∃ m n, m ≤ n ∧ n ≤ 9999999 ∧ l' = nI m ∧ l = nI m ∧ g = nI n) → q_Stp (kc C g l) (kr M l' g)) : ∀ (fu i : Nat) (g l l' : Int32), i ≤ nJ → nJ - i < fu → ((l' = -1 ∧ l = 9999999 ∧ g = 0) ∨ ∃ m n, m ≤ n ∧ n ≤ 9999999 ∧ l' = nI m ∧ l = nI m ∧ g = nI n) → q_Stp (fX10_spread_L21 a kc fu C g l (nI i)) (fX11_spread_L19 a kr fu M l' g (nI i)) := by
  obtain ⟨⟨hS, hL, iP, iF, iD, iJ, iR⟩, hR⟩ := id hN
  obtain ⟨⟨⟨c0, c1, c2, c3, c4⟩, ⟨s0, s1, s2, s3, s4⟩, ⟨n1, n2, n3, n4, n5⟩⟩, gP, gF, gD, gJ, gR, gL⟩ := id hS
  have hg : C 23 0 = M 1 1 := gR 0 (by decide)
  intro fu
  induction fu with
  | zero => intro j _ _ _ _ hf; omega
  | succ n ih =>
    intro i g l l' hi hf hI
    rw [fX10_spread_L21, fX11_spread_L19, c4, s4]
    by_cases q : i = nJ
    · subst q
      rw [if_pos (Int32.le_refl _), if_pos (Int32.le_refl _)]
      exact hk g l l' hI
    · have hi2 : i < nJ := by omega
      rw [if_neg (u_lie hi2 (by omega)), if_neg (u_lie hi2 (by omega))]
      obtain ⟨-, -, ⟨da, hda, ea⟩, ⟨su, hsu, es⟩, -⟩ := iJ.1 i hi2
      have h99 := u_99 hda hsu
      obtain ⟨fl, hfl, efl⟩ := b_flat (nI i) n3 iD iR
      have core : ∀ c, c ≤ 99980001 → q_Stp (x_b (fX8_shareOf C (nI i) (nI c)) fun v_21 M_19 => fX10_spread_L21 a kc n M_19 (if g < v_21 then v_21 else g) (if v_21 < l then v_21 else l) (nI i + 1)) (x_b (fX11_share M (nI i) (nI c)) fun v_23 M_21 => if l' = -1 then (if v_23 ≤ g then fX11_spread_L19 a kr n M_21 v_23 g (nI i + 1) else fX11_spread_L19 a kr n M_21 v_23 v_23 (nI i + 1)) else if l' ≤ v_23 then (if v_23 ≤ g then fX11_spread_L19 a kr n M_21 l' g (nI i + 1) else fX11_spread_L19 a kr n M_21 l' v_23 (nI i + 1)) else (if v_23 ≤ g then fX11_spread_L19 a kr n M_21 v_23 g (nI i + 1) else fX11_spread_L19 a kr n M_21 v_23 v_23 (nI i + 1))) := by
        intro c hc
        obtain ⟨v, hv, ev⟩ := b_share (j := i) hc iF iR
        rw [c_share _ c2 c1 n2 n1 hi2 n4 gF gP gJ hg iP iF iR iJ, p_share _ s2 n2 n1 hi2 n4 iP iF iR iJ, x_b_some, x_b_some, ev, u_a1]
        rcases hI with ⟨rfl, rfl, rfl⟩ | ⟨m, w, h1, h2, rfl, rfl, rfl⟩
        · rw [if_pos rfl]
          by_cases q0 : v = 0
          · subst q0
            exact ih (i + 1) _ _ _ (by omega) (by omega) (Or.inr ⟨0, 0, by omega, by omega, rfl, rfl, rfl⟩)
          · rw [if_pos (show (0 : Int32) < nI v by rw [kn0_tl (by omega)]; omega), if_neg (show ¬ nI v ≤ 0 by rw [kn0_le (by omega)]; omega)]
            refine ih (i + 1) _ _ _ (by omega) (by omega) (Or.inr ⟨v, v, by omega, hv, rfl, ?_, rfl⟩)
            by_cases q9 : v = 9999999
            · subst q9
              rfl
            · rw [if_pos (show nI v < 9999999 by rw [kn9999999_lt (by omega)]; omega)]
        · rw [if_neg (show ¬ nI m = (-1 : Int32) by rw [l_neg (by omega)]; exact id)]
          simp (disch := omega) only [l_ltn, l_len]
          by_cases q1 : m ≤ v
          · rw [if_pos q1, if_neg (show ¬ v < m by omega)]
            by_cases q2 : v ≤ w
            · rw [if_pos q2, if_neg (show ¬ w < v by omega)]
              exact ih (i + 1) _ _ _ (by omega) (by omega) (Or.inr ⟨m, w, h1, h2, rfl, rfl, rfl⟩)
            · rw [if_neg q2, if_pos (show w < v by omega)]
              exact ih (i + 1) _ _ _ (by omega) (by omega) (Or.inr ⟨m, v, by omega, hv, rfl, rfl, rfl⟩)
          · rw [if_neg q1, if_pos (show v < m by omega), if_pos (show v ≤ w by omega), if_neg (show ¬ w < v by omega)]
            exact ih (i + 1) _ _ _ (by omega) (by omega) (Or.inr ⟨v, w, by omega, h2, rfl, rfl, rfl⟩)
      by_cases qa : a = 0
      · simp only [x_l]
        rw [if_pos qa, if_pos qa, u_g (by omega) (by decide), u_c (by omega), c_fine hi2 gJ, p_fine M (by omega), x_b_some, x_b_some, b_fine ea es]
        exact core _ h99
      · simp only [x_l]
        rw [if_neg qa, if_neg qa, c_flat _ c3 n3 gD gL iD, p_flat _ s3 n3, x_b_some, x_b_some, efl]
        exact core _ (by omega)
theorem q_spread {C M : xM} (h : Rel C M) (a : Int32) : q_Stp (fX10_spread C a) (fX11_spread M a) := by
  obtain ⟨⟨nP, nF, nD, nJ, t, hF⟩, hR⟩ := id h
  have n4 := hF.1.1.2.2.2.2.2.1
  unfold fX10_spread fX11_spread
  rw [c_in, p_in, x_b_some, x_b_some]
  refine q_ck h Iff.rfl (fun _ => ?_)
  refine q_sprL ⟨hF, hR⟩ a _ _ ?_ x_FU 0 0 9999999 (-1) (Nat.zero_le _) (by rw [x_FU_eq]; omega) (Or.inl ⟨rfl, rfl, rfl⟩)
  intro g l l' hI
  rcases hI with ⟨rfl, rfl, rfl⟩ | ⟨m, w, h1, h2, rfl, rfl, rfl⟩
  · exact q_same h rfl rfl
  · show q_Stp (some ((if 0 < nI w - nI m then nI w - nI m else 0), C)) (if nI m = -1 then some (0, M) else some (nI w - nI m, M))
    rw [if_neg (show ¬ nI m = (-1 : Int32) by rw [l_neg (by omega)]; exact id), pk_sub h1]
    refine q_mk ?_ h
    by_cases q : 0 < w - m
    · rw [if_pos (show (0 : Int32) < nI (w - m) by rw [kn0_tl (by omega)]; exact q)]
    · rw [if_neg (show ¬ (0 : Int32) < nI (w - m) by rw [kn0_tl (by omega)]; exact q), show w - m = 0 by omega]
      rfl
