/-! judgments: fine, unpaid, share, flats -/
def sp_fine (s : Nat → Int32) (j : Nat) : Int32 := s (792 + 10 * j + 2) * s (792 + 10 * j + 3)
def sp_unp (s : Nat → Int32) (j : Nat) : Int32 := if 0 ≤ sp_fine s j - s (792 + 10 * j + 4) then sp_fine s j - s (792 + 10 * j + 4) else 0
def sp_unpd (s : Nat → Int32) (j : Nat) : Int32 := if s (792 + 10 * j + 3) = 0 then 0 else (sp_unp s j + s (792 + 10 * j + 3) - 1) / s (792 + 10 * j + 3)
theorem p_fine (M : xM) {j : Nat} (hj : j < 16) : fX11_fine M (nI j) = some (sp_fine (M 1) j, M) := by
  unfold fX11_fine sp_fine
  simp (disch := omega) only [u_10, u_a2, u_a3, u_g, u_c]
theorem p_unp (M : xM) {j : Nat} (hj : j < 16) : fX11_unpaid M (nI j) = some (sp_unp (M 1) j, M) := by
  unfold fX11_unpaid sp_unp
  simp (disch := omega) only [p_fine M hj, x_b_some, u_10, u_a4, u_g, u_c, p_more]
theorem p_unpd (M : xM) {j : Nat} (hj : j < 16) : fX11_unpaidDays M (nI j) = some (sp_unpd (M 1) j, M) := by
  unfold fX11_unpaidDays sp_unpd
  simp (disch := omega) only [p_unp M hj, x_b_some, u_10, u_a3, u_g, u_c, x_l]
  split
  · rfl
  · rename_i q
    unfold x_d
    rw [if_neg q]
theorem c_fine {C : xM} {s : Nat → Int32} {nJ j : Nat} (hj : j < nJ) (gJ : r_J 0 C s nJ) : fX2_fine C (169 + j) = some (sp_fine s j, C) := by
  have j2 : C (169 + j) 2 = s (792 + 10 * j + 2) := (gJ j hj).1 2 (by decide)
  have j3 : C (169 + j) 3 = s (792 + 10 * j + 3) := (gJ j hj).1 3 (by decide)
  unfold fX2_fine sp_fine
  rw [j2, j3]
theorem c_unp {C : xM} {s : Nat → Int32} {nJ j : Nat} (hj : j < nJ) (gJ : r_J 0 C s nJ) : fX2_unpaidCoins C (169 + j) = some (sp_unp s j, C) := by
  have j4 : C (169 + j) 4 = s (792 + 10 * j + 4) := (gJ j hj).1 4 (by decide)
  unfold fX2_unpaidCoins sp_unp
  rw [c_fine hj gJ, x_b_some, j4]
  congr 2
  generalize sp_fine s j - s (792 + 10 * j + 4) = x
  grind
theorem c_unpd {C : xM} {s : Nat → Int32} {nJ j : Nat} (hj : j < nJ) (gJ : r_J 0 C s nJ) : fX2_unpaidDays C (169 + j) = some (sp_unpd s j, C) := by
  have j3 : C (169 + j) 3 = s (792 + 10 * j + 3) := (gJ j hj).1 3 (by decide)
  unfold fX2_unpaidDays sp_unpd
  rw [c_unp hj gJ, x_b_some, j3]
  split
  · rfl
  · rename_i q
    unfold x_d
    rw [if_neg q]
def sp_shv (e coins : Int32) : Int32 := if 1000 * coins.toInt64 / (if 1 ≤ e then e else 1).toInt64 ≤ 9999999 then (1000 * coins.toInt64 / (if 1 ≤ e then e else 1).toInt64).toInt32 else 9999999
def sp_share (s : Nat → Int32) (nF j : Nat) (coins : Int32) : Int32 := sp_shv (sp_earn s nF (s (792 + 10 * j)).toNatClampNeg (s (792 + 10 * j + 1)) (s (792 + 10 * j + 1))) coins
theorem u_1e (e : Int32) (he : ∃ v, v ≤ 99999 ∧ e = nI v) : ¬ (if 1 ≤ e then e else 1 : Int32).toInt64 = 0 := by
  obtain ⟨v, hv, rfl⟩ := he
  split
  · rename_i q
    rw [kn1_el (by omega)] at q
    rw [nI_l (by omega), show (0 : Int64) = lN 0 from rfl, lN_eq (by omega) (by decide)]
    omega
  · decide
theorem p_share {M : xM} {nF nP nJ j : Nat} (coins : Int32) (hF : M 1 18 = nI nF) (hn : nF ≤ 96) (hp : nP ≤ 12) (hj : j < nJ) (hj2 : nJ ≤ 16) (iP : i_P (M 1) nP) (iF : i_F (M 1) nF) (iR : i_R (M 1)) {t : Nat} (iJ : i_J (M 1) nP nJ t) : fX11_share M (nI j) coins = some (sp_share (M 1) nF j coins, M) := by
  unfold fX11_share sp_share sp_shv
  obtain ⟨⟨q, hq, eq⟩, -⟩ := iJ.1 j hj
  have he := u_1e _ (b_earn q (M 1 (792 + 10 * j + 1)) (M 1 (792 + 10 * j + 1)) iF iR)
  simp (disch := omega) only [x_l, u_10, u_a1, u_g, u_c, eq, p_earn _ _ hF hn hq hp iP, x_b_some, p_more, x_dL, he, if_false, lg_cmp_le, u_ifs]
theorem c_share {C : xM} {s : Nat → Int32} {nF nP nJ j : Nat} (coins : Int32) (hF : C 1 2 = nI nF) (hN : C 1 1 = nI nP) (hn : nF ≤ 96) (hp : nP ≤ 12) (hj : j < nJ) (hj2 : nJ ≤ 16) (gF : r_F 0 C s nF) (gP : r_P 0 C s nP) (gJ : r_J 0 C s nJ) (hg : C 23 0 = s 1) (iP : i_P s nP) (iF : i_F s nF) (iR : i_R s) {t : Nat} (iJ : i_J s nP nJ t) : fX8_shareOf C (nI j) coins = some (sp_share s nF j coins, C) := by
  unfold fX8_shareOf sp_share sp_shv
  obtain ⟨⟨q, hq, eq⟩, -⟩ := iJ.1 j hj
  have j0 : C (169 + j) 0 = s (792 + 10 * j) := (gJ j hj).1 0 (by decide)
  have j1 : C (169 + j) 1 = s (792 + 10 * j + 1) := (gJ j hj).1 1 (by decide)
  have he := u_1e _ (b_earn q (s (792 + 10 * j + 1)) (s (792 + 10 * j + 1)) iF iR)
  rw [u_g (by omega) (by decide), u_c (by omega), j0, j1, eq, c_earn _ _ hF hN hn hq hp gF gP hg iP, x_b_some, u_c (by omega)]
  generalize sp_earn s nF q (s (792 + 10 * j + 1)) (s (792 + 10 * j + 1)) = x at he ⊢
  have e1 : (if 1 < x then x else 1 : Int32) = (if 1 ≤ x then x else 1) := by grind
  rw [e1, Int64.mul_comm]
  simp only [x_l, x_dL, he, if_false]
  congr 2
  generalize 1000 * coins.toInt64 / (if 1 ≤ x then x else 1 : Int32).toInt64 = y
  by_cases q : y ≤ 9999999
  · rw [if_pos q, if_neg (Int64.not_lt.mpr q)]
  · rw [if_neg q, if_pos (Int64.not_le.mp q)]
    rfl
/-- flat ones -/
def sp_flat (s : Nat → Int32) (nD : Nat) (j : Int32) : Int32 := sm (fun k => sp_deeds s nD j (nI k) * s (24 + k)) 4
theorem p_flat {M : xM} {nD : Nat} (j : Int32) (hD : M 1 19 = nI nD) (hn : nD ≤ 30) : fX11_flatOf M j = some (sp_flat (M 1) nD j, M) := by
  unfold fX11_flatOf sp_flat
  refine sm_loop (K := fun x => some (x, M)) (fun fu x i => fX11_flatOf_L4 j fu M x i) _ 4 ?_ ?_ x_FU 0 (Nat.zero_le _) (by rw [x_FU_eq]; omega)
  · intro fu x
    rw [fX11_flatOf_L4, if_pos (show (4 : Int32) ≤ nI 4 from Int32.le_refl _)]
  · intro fu x i hi
    rw [fX11_flatOf_L4, if_neg (show ¬ (4 : Int32) ≤ nI i from u_lie hi (by decide))]
    simp (disch := omega) only [x_l, p_deeds _ _ hD hn, x_b_some, u_24, u_a1, u_g, u_c]
theorem sp_flat_eq (s : Nat → Int32) (j : Int32) : ∀ {nD : Nat}, (∀ d, d < nD → ∃ k, k ≤ 3 ∧ s (642 + 5 * d) = nI k) → sp_flat s nD j = sm (fun d => if s (642 + 5 * d + 4) = j then s (24 + (s (642 + 5 * d)).toNatClampNeg) else 0) nD
  | 0, _ => by
    unfold sp_flat sp_deeds
    simp [sm]
  | n + 1, h => by
    have ih := sp_flat_eq s j (nD := n) (fun d hd => h d (by omega))
    obtain ⟨k, hk, ek⟩ := h n (by omega)
    rw [sm, ← ih]
    unfold sp_flat
    simp only [sm]
    unfold sp_deeds
    simp only [sm, ek]
    have hm : ∀ a : Nat, a ≤ 3 → ¬ nI a = (-1 : Int32) := fun a ha => by rw [l_neg (by omega)]; exact id
    rw [u_c (by omega)]
    rcases (show k = 0 ∨ k = 1 ∨ k = 2 ∨ k = 3 by omega) with rfl | rfl | rfl | rfl
    all_goals
      have h0 := hm 0 (by omega)
      have h1 := hm 1 (by omega)
      have h2 := hm 2 (by omega)
      have h3 := hm 3 (by omega)
      simp (disch := omega) only [h0, h1, h2, h3, false_or, l_eqn, Nat.reduceEqDiff, and_false, and_true, if_false]
      split <;> grind
theorem c_flat {C : xM} {s : Nat → Int32} {nD nP nJ : Nat} (j : Int32) (hD : C 1 3 = nI nD) (hn : nD ≤ 30) (gD : r_D 0 C s nD) (gL : r_L 0 C s) (iD : i_D s nP nD nJ) : fX8_flatOf C j = some (sp_flat s nD j, C) := by
  rw [sp_flat_eq s j (fun d hd => (iD d hd).1)]
  unfold fX8_flatOf
  refine sm_loop (K := fun x => some (x, C)) (fun fu x i => fX8_flatOf_L4 j fu C x i) _ nD ?_ ?_ x_FU 0 (Nat.zero_le _) (by rw [x_FU_eq]; omega)
  · intro fu x
    rw [fX8_flatOf_L4, hD, if_pos (Int32.le_refl _)]
  · intro fu x i hi
    have g4 : C (139 + i) 4 = s (642 + 5 * i + 4) := gD i hi 4 (by decide)
    have g0 : C (139 + i) 0 = s (642 + 5 * i) := gD i hi 0 (by decide)
    obtain ⟨⟨k, hk, ek⟩, -⟩ := iD i hi
    have l0 : C 24 k = s (24 + k) := gL k (by omega)
    rw [fX8_flatOf_L4, hD, if_neg (u_lie hi (by omega))]
    simp (disch := omega) only [x_l, u_a1, u_g, u_c, g4, g0, ek, l0]
    have z : x + 0 = x := by simp
    grind
theorem c_ne {b : Int32} (hb : ¬ (0 ≤ b ∧ b ≤ 13)) (z : Int32) (z1 : 0 ≤ z) (z2 : z ≤ 13) : ¬ b = z := fun e => hb (by rw [e]; exact ⟨z1, z2⟩)
theorem q_about {C M : xM} (h : Rel C M) (a b : Int32) : q_Stp (fX10_about C a b) (fX11_about M a b) := by
  obtain ⟨⟨nP, nF, nD, nJ, t, hS, hL, iP, iF, iD, iJ, iR⟩, hR⟩ := id h
  obtain ⟨⟨⟨c0, c1, c2, c3, c4⟩, ⟨s0, s1, s2, s3, s4⟩, ⟨n1, n2, n3, n4, n5⟩⟩, gP, gF, gD, gJ, gR, gL⟩ := id hS
  unfold fX10_about fX11_about
  have hg : C 23 0 = M 1 1 := gR 0 (by decide)
  have hT : C 23 12 = M 1 13 := gR 12 (by decide)
  rw [c_hasJudgment, p_isJudgment, x_b_some, x_b_some]
  refine q_ck h (by rw [c4, s4]) (fun hp => ?_)
  rw [c4, u_has (by omega)] at hp
  obtain ⟨j, hj, rfl⟩ := hp
  have j0 : C (169 + j) 0 = M 1 (792 + 10 * j) := (gJ j hj).1 0 (by decide)
  have j1 : C (169 + j) 1 = M 1 (792 + 10 * j + 1) := (gJ j hj).1 1 (by decide)
  have j2 : C (169 + j) 2 = M 1 (792 + 10 * j + 2) := (gJ j hj).1 2 (by decide)
  have j3 : C (169 + j) 3 = M 1 (792 + 10 * j + 3) := (gJ j hj).1 3 (by decide)
  have j4 : C (169 + j) 4 = M 1 (792 + 10 * j + 4) := (gJ j hj).1 4 (by decide)
  have j5 : C (169 + j) 5 = M 1 (792 + 10 * j + 5) := (gJ j hj).1 5 (by decide)
  have j7 : C (169 + j) 7 = M 1 (792 + 10 * j + 7) := (gJ j hj).1 7 (by decide)
  rw [u_g (by omega) (by decide), u_c (by omega), p_in, x_b_some]
  by_cases hb : 0 ≤ b ∧ b ≤ 13
  · rw [if_pos hb, if_neg (show ¬ (1 : Int32) = 0 by decide)]
    simp (maxSteps := 3000000) (disch := omega) only [x_l, u_10, u_a1, u_a2, u_a3, u_a4, u_a5, u_a7, u_g, u_c, c_fine hj gJ, c_unp hj gJ, c_unpd hj gJ, c_deeds _ c3 n3 gD, c_flat _ c3 n3 gD gL iD, c_share _ c2 c1 n2 n1 hj n4 gF gP gJ hg iP iF iR iJ, p_fine M (show j < 16 by omega), p_unp M (show j < 16 by omega), p_unpd M (show j < 16 by omega), p_deeds _ _ s3 n3, p_flat _ s3 n3, p_share _ s2 n2 n1 hj n4 iP iF iR iJ, x_b_some, j0, j1, j2, j3, j4, j5, j7, hT]
    obtain ⟨k, hk, rfl⟩ := u_of (n := 13) hb.1 hb.2 (by decide)
    rcases (show k = 0 ∨ k = 1 ∨ k = 2 ∨ k = 3 ∨ k = 4 ∨ k = 5 ∨ k = 6 ∨ k = 7 ∨ k = 8 ∨ k = 9 ∨ k = 10 ∨ k = 11 ∨ k = 12 ∨ k = 13 by omega) with rfl | rfl | rfl | rfl | rfl | rfl | rfl | rfl | rfl | rfl | rfl | rfl | rfl | rfl <;> exact q_same h rfl rfl
  · rw [if_neg hb, if_pos (show (0 : Int32) = 0 from rfl)]
    have := c_ne hb
    refine q_same h (r := -1000000001) ?_ rfl
    rw [if_neg (this 0 (by decide) (by decide)), if_neg (this 1 (by decide) (by decide)), if_neg (this 2 (by decide) (by decide)), if_neg (this 3 (by decide) (by decide)), if_neg (this 4 (by decide) (by decide)), if_neg (this 5 (by decide) (by decide)), if_neg (this 6 (by decide) (by decide)), if_neg (this 7 (by decide) (by decide)), if_neg (this 8 (by decide) (by decide)), if_neg (this 9 (by decide) (by decide)), if_neg (this 10 (by decide) (by decide)), if_neg (this 11 (by decide) (by decide)), if_neg (this 12 (by decide) (by decide)), if_neg (this 13 (by decide) (by decide))]
