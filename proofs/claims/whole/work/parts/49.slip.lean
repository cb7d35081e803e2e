/-! longs (the first rows are kit/laws' own: a pasted family) -/
theorem fb_rng (x : Int32) : -2147483648 ≤ x.toInt ∧ x.toInt < 2147483648 := by
  have h1 := Int32.le_toInt x
  have h2 := Int32.toInt_lt x
  omega
theorem fb_bmod {z : Int} (h1 : -2147483648 ≤ z) (h2 : z < 2147483648) : z.bmod (2 ^ 32) = z := by
  rw [Int.bmod_eq_of_le (by omega) (by omega)]
theorem fb_addI {x y : Int32} (h1 : -2147483648 ≤ x.toInt + y.toInt) (h2 : x.toInt + y.toInt < 2147483648) : (x + y).toInt = x.toInt + y.toInt := by
  rw [Int32.toInt_add, fb_bmod h1 h2]
theorem fb_subI {x y : Int32} (h1 : -2147483648 ≤ x.toInt - y.toInt) (h2 : x.toInt - y.toInt < 2147483648) : (x - y).toInt = x.toInt - y.toInt := by
  rw [Int32.toInt_sub, fb_bmod h1 h2]
theorem fb_mulI {x y : Int32} (h1 : -2147483648 ≤ x.toInt * y.toInt) (h2 : x.toInt * y.toInt < 2147483648) : (x * y).toInt = x.toInt * y.toInt := by
  rw [Int32.toInt_mul, fb_bmod h1 h2]
theorem fb_rngL (x : Int64) : -9223372036854775808 ≤ x.toInt ∧ x.toInt < 9223372036854775808 := by
  have h1 := Int64.le_toInt x
  have h2 := Int64.toInt_lt x
  omega
theorem fb_bmodL {z : Int} (h1 : -9223372036854775808 ≤ z) (h2 : z < 9223372036854775808) : z.bmod (2 ^ 64) = z := by
  rw [Int.bmod_eq_of_le (by omega) (by omega)]
theorem fb_addL {x y : Int64} (h1 : -9223372036854775808 ≤ x.toInt + y.toInt) (h2 : x.toInt + y.toInt < 9223372036854775808) : (x + y).toInt = x.toInt + y.toInt := by
  rw [Int64.toInt_add, fb_bmodL h1 h2]
theorem fb_subL {x y : Int64} (h1 : -9223372036854775808 ≤ x.toInt - y.toInt) (h2 : x.toInt - y.toInt < 9223372036854775808) : (x - y).toInt = x.toInt - y.toInt := by
  rw [Int64.toInt_sub, fb_bmodL h1 h2]
theorem fb_negL {x : Int64} (h1 : x.toInt ≠ -9223372036854775808) : (-x).toInt = -x.toInt := by
  have := fb_rngL x
  rw [Int64.toInt_neg, fb_bmodL (by omega) (by omega)]
/-- a way off and a slack -/
theorem u_slack {z : Int64} {m : Nat} (hz : z.toInt ≠ -9223372036854775808) (hm : m ≤ 9999) : (if 0 < z then z else -z) ≤ (nI m).toInt64 ↔ ¬ (0 < lg_cmp z (nI m).toInt64) ∧ 0 ≤ lg_cmp z (-(nI m)).toInt64 := by
  have e1 : ((nI m).toInt64).toInt = (m : Int) := by rw [Int32.toInt_toInt64, nI_toInt (by omega)]
  have e2 : ((-(nI m)).toInt64).toInt = -(m : Int) := by rw [Int32.toInt_toInt64, sb_negT (by omega)]
  rw [lg_cmp_gt, lg_cmp_ge]
  by_cases q : 0 < z
  · rw [if_pos q, Int64.lt_iff_toInt_lt, Int64.le_iff_toInt_le, Int64.le_iff_toInt_le, e1, e2]
    rw [Int64.lt_iff_toInt_lt] at q
    have : (0 : Int64).toInt = 0 := rfl
    omega
  · rw [if_neg q, Int64.lt_iff_toInt_lt, Int64.le_iff_toInt_le, Int64.le_iff_toInt_le, e1, e2, fb_negL hz]
    rw [Int64.lt_iff_toInt_lt] at q
    have : (0 : Int64).toInt = 0 := rfl
    omega
theorem q_slipL {C M : xM} (h : Rel C M) {z n : Nat} (hz : z < 2) (hn : n ≤ 24) (e14 : M 14 z = nI n) (e8 : C 8 z = nI n) (ep : ∀ i, i < n → C (9 + z) i = M 13 (24 * z + i)) (kc kr : xM → Int64 → Option (Int32 × xM)) (hk : ∀ x : Int64, 0 ≤ x.toInt → x.toInt ≤ 24 * 2147483648 → q_Stp (kc C x) (kr M x)) : ∀ (fu i : Nat) (x : Int64), i ≤ n → n - i < fu → 0 ≤ x.toInt → x.toInt ≤ i * 2147483648 → q_Stp (fX10_slip_L41 (nI z) kc (fun M i => some (i, M)) fu C x (nI i)) (fX11_slip_L39 (nI z) kr (fun M i => some (i, M)) fu M x (nI i)) := by
  have hx9 : xn 0 (9 + z) = 24 := by
    rcases (show z = 0 ∨ z = 1 by omega) with rfl | rfl <;> rfl
  intro fu
  induction fu with
  | zero => intro i x _ hf; omega
  | succ k ih =>
    intro i x hi hf h0 h1
    rw [fX10_slip_L41, fX11_slip_L39]
    simp only [u_g hz (show (2 : Nat) < 2 ^ 31 by decide), u_c (show z < 2 ^ 31 by omega), e14, e8]
    by_cases q : i = n
    · subst q
      rw [if_pos (Int32.le_refl _), if_pos (Int32.le_refl _)]
      exact hk x h0 (by omega)
    · have hi2 : i < n := by omega
      rw [if_neg (u_lie hi2 (by omega)), if_neg (u_lie hi2 (by omega)), hx9]
      have ei : (24 : Int32) * nI z + nI i = nI (24 * z + i) := by rw [show (24 : Int32) = nI 24 from rfl, pk_mul, nI_add]
      have er : nI i - nI i / 2 * 2 = nI (i % 2) := pk_rem (a := i) (d := 2) (by omega) (by decide) (by decide)
      have e := ep i hi2
      simp only [ei, er]
      rw [u_g (show i < 24 by omega) (by decide), u_g (show 24 * z + i < 48 by omega) (by decide), u_c (show i < 2 ^ 31 by omega), u_c (show 24 * z + i < 2 ^ 31 by omega), e]
      generalize M 13 (24 * z + i) = v
      simp only [x_l, u_a1]
      rcases (show i % 2 = 0 ∨ i % 2 = 1 by omega) with p | p
      · simp only [p, eq_true (show nI 0 = (0 : Int32) from rfl), eq_false (show ¬ (1 : Int32) = 0 by decide), if_true, if_false]
        by_cases qv : 0 ≤ v
        · rw [if_pos qv, if_pos qv]
          have hv := fb_rng v
          rw [Int32.le_iff_toInt_le] at qv
          have z0 : (0 : Int32).toInt = 0 := rfl
          have ea : (x + v.toInt64).toInt = x.toInt + v.toInt := by
            rw [fb_addL] <;> rw [Int32.toInt_toInt64] <;> omega
          exact ih (i + 1) _ (by omega) (by omega) (by omega) (by omega)
        · rw [if_neg qv, if_neg qv]
          exact q_same h rfl rfl
      · simp only [p, eq_false (show ¬ nI 1 = (0 : Int32) by decide), if_true, if_false]
        by_cases qv : lg_cmp v.toInt64 x = 0
        · rw [if_pos qv, if_pos qv, Int64.add_zero]
          exact ih (i + 1) _ (by omega) (by omega) h0 (by omega)
        · rw [if_neg qv, if_neg qv]
          exact q_same h rfl rfl
theorem q_slip {C M : xM} (h : Rel C M) (a b : Int32) : q_Stp (fX10_slip C a b) (fX11_slip M a b) := by
  obtain ⟨⟨nP, nF, nD, nJ, t, hS, hL, iP, iF, iD, iJ, iR⟩, hR⟩ := id h
  obtain ⟨⟨⟨c0, c1, c2, c3, c4⟩, ⟨s0, s1, s2, s3, s4⟩, ⟨n1, n2, n3, n4, n5⟩⟩, gP, gF, gD, gJ, gR, gL⟩ := id hS
  have hg : C 23 0 = M 1 1 := gR 0 (by decide)
  have h15 : C 23 15 = M 1 16 := gR 15 (by decide)
  obtain ⟨m, hm, em⟩ := g_rule iR 9999 (j := 15) (by decide) rfl (by decide)
  have em' : M 1 16 = nI m := em
  unfold fX10_slip fX11_slip
  rw [c_hasPerson, p_isPerson, x_b_some, x_b_some]
  refine q_ck h (by rw [c1, s1]) (fun hp => ?_)
  rw [c1, u_has (by omega)] at hp
  obtain ⟨i, hi, rfl⟩ := hp
  rw [c_in, p_in, x_b_some, x_b_some]
  refine q_ck h Iff.rfl (fun hb => ?_)
  obtain ⟨z, hz, rfl⟩ := u_of (n := 1) hb.1 hb.2 (by decide)
  have hs : r_S1 z C M := by
    rcases (show z = 0 ∨ z = 1 by omega) with rfl | rfl
    · exact hR.2.2.2.1
    · exact hR.2.2.2.2
  rw [u_g (show z < 2 by omega) (by decide), u_g (show z < 2 by omega) (by decide), u_c (by omega)]
  rcases hs with ⟨e14, e7⟩ | ⟨n, hn, e14, e7, e8, ep⟩
  · rw [e14, e7, if_pos rfl, if_neg (by decide)]
    exact q_same h rfl rfl
  · rw [e14, e7, if_pos rfl, if_neg (show ¬ nI n = (-1 : Int32) by rw [l_neg (by omega)]; exact id)]
    refine q_slipL h (show z < 2 by omega) hn e14 e8 ep _ _ ?_ x_FU 0 0 (Nat.zero_le _) (by rw [x_FU_eq]; omega) (by decide) (by decide)
    intro x x0 x1
    obtain ⟨v, hv, ev⟩ := b_what (nI i) 0 (nI t) (nI t) iF iR
    simp (disch := omega) only [u_g, u_c, x_l, e8, e14, c0, s0, c_what _ _ _ _ c2 n2 gF hg, p_what _ _ _ _ s2 n2, x_b_some, ev, h15, em', lg_cmp_le]
    by_cases q : n = 24
    · subst q
      rw [if_pos (show (24 : Int32) ≤ nI 24 from Int32.le_refl _), if_pos (show nI 24 = (24 : Int32) from rfl)]
      have ew : ((12 : Int64) * (nI v).toInt64).toInt = 12 * (v : Int) := by
        rw [nI_l (by omega), show (12 : Int64) = lN 12 from rfl, lN_mul, pk_lT (by omega)]
        omega
      have ez : (x - 12 * (nI v).toInt64).toInt = x.toInt - 12 * (v : Int) := by
        rw [fb_subL] <;> rw [ew] <;> omega
      have hsl := u_slack (z := x - 12 * (nI v).toInt64) (m := m) (by omega) hm
      generalize x - 12 * (nI v).toInt64 = y at hsl ⊢
      by_cases q1 : (if 0 < y then y else -y) ≤ (nI m).toInt64
      · obtain ⟨a1, a2⟩ := hsl.mp q1
        rw [if_pos q1, if_neg a1, if_pos a2]
        exact q_same h rfl rfl
      · rw [if_neg q1]
        by_cases q2 : 0 < lg_cmp y (nI m).toInt64
        · rw [if_pos q2]
          exact q_same h rfl rfl
        · rw [if_neg q2, if_neg (fun q3 => q1 (hsl.mpr ⟨q2, q3⟩))]
          exact q_same h rfl rfl
    · rw [if_neg (show ¬ (24 : Int32) ≤ nI n by rw [kn24_el (by omega)]; omega), if_neg (show ¬ nI n = (24 : Int32) by rw [kn24_eq (by omega)]; exact q)]
      exact q_same h rfl rfl
