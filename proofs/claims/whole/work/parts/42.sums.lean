def sm (f : Nat → Int32) : Nat → Int32
  | 0 => 0
  | n + 1 => sm f n + f n
theorem sm_loop {ρ : Type} {K : Int32 → Option ρ} (L : Nat → Int32 → Int32 → Option ρ) (f : Nat → Int32) (n : Nat) (he : ∀ fu x, L (fu + 1) x (nI n) = K x) (hs : ∀ fu x i, i < n → L (fu + 1) x (nI i) = L fu (x + f i) (nI (i + 1))) : ∀ fu i, i ≤ n → n - i < fu → L fu (sm f i) (nI i) = K (sm f n) := by
  intro fu
  induction fu with
  | zero => intro i _ h; omega
  | succ k ih =>
    intro i hi hf
    by_cases q : i = n
    · subst q
      exact he k _
    · rw [hs k _ i (by omega)]
      exact ih (i + 1) (by omega) (by omega)
theorem sm_cong {f g : Nat → Int32} : ∀ {n : Nat}, (∀ i, i < n → f i = g i) → sm f n = sm g n
  | 0, _ => rfl
  | n + 1, h => by rw [sm, sm, sm_cong (fun i hi => h i (by omega)), h n (by omega)]
theorem u_len {a b : Nat} (h : ¬ b ≤ a) (ha : a < 2 ^ 31) (hb : b < 2 ^ 31) : ¬ nI b ≤ nI a := by rw [l_len hb ha]; exact h
theorem u_lie {a b : Nat} (h : a < b) (hb : b < 2 ^ 31) : ¬ nI b ≤ nI a := by rw [l_len hb (by omega)]; omega
/-- PAST of a deed -/
def sp_past (s : Nat → Int32) (nJ d : Nat) : Int32 := sm (fun j => if s (792 + 10 * j) = s (642 + 5 * d + 1) ∧ 1 ≤ s (642 + 5 * d + 2) - s (792 + 10 * j + 1) ∧ s (642 + 5 * d + 2) - s (792 + 10 * j + 1) ≤ s 2 then 1 else 0) nJ
theorem p_past {M : xM} {nJ d : Nat} (hJ : M 1 20 = nI nJ) (hn : nJ ≤ 16) (hd : d < 30) : fX11_past M (nI d) = some (sp_past (M 1) nJ d, M) := by
  unfold fX11_past x_l sp_past
  rw [u_5]
  refine sm_loop (K := fun x => some (x, M)) (fun fu x i => fX11_past_L13 (nI (642 + 5 * d)) fu M x i) _ nJ ?_ ?_ x_FU 0 (Nat.zero_le _) (by rw [x_FU_eq]; omega)
  · intro fu x
    rw [fX11_past_L13, hJ, if_pos (Int32.le_refl _)]
  · intro fu x i hi
    rw [fX11_past_L13, hJ, if_neg (u_lie hi (by omega))]
    simp (disch := omega) only [x_l, u_a1, u_a2, u_10, u_g, u_c, p_in, x_b_some, u_if0]
    grind
theorem c_past {C : xM} {s : Nat → Int32} {nJ nD d : Nat} (hJ : C 1 4 = nI nJ) (hn : nJ ≤ 16) (hd : d < nD) (hn2 : nD ≤ 30) (gD : r_D 0 C s nD) (gJ : r_J 0 C s nJ) (hy : C 23 1 = s 2) : fX8_pastOf C (139 + d) = some (sp_past s nJ d, C) := by
  unfold fX8_pastOf sp_past
  have d1 : C (139 + d) 1 = s (642 + 5 * d + 1) := gD d hd 1 (by decide)
  have d2 : C (139 + d) 2 = s (642 + 5 * d + 2) := gD d hd 2 (by decide)
  refine sm_loop (K := fun x => some (x, C)) (fun fu x i => fX8_pastOf_L4 (139 + d) fu C x i) _ nJ ?_ ?_ x_FU 0 (Nat.zero_le _) (by rw [x_FU_eq]; omega)
  · intro fu x
    rw [fX8_pastOf_L4, hJ, if_pos (Int32.le_refl _)]
  · intro fu x i hi
    have j0 : C (169 + i) 0 = s (792 + 10 * i) := (gJ i hi).1 0 (by decide)
    have j1 : C (169 + i) 1 = s (792 + 10 * i + 1) := (gJ i hi).1 1 (by decide)
    rw [fX8_pastOf_L4, hJ, if_neg (u_lie hi (by omega))]
    simp (disch := omega) only [x_l, u_a1, u_g, u_c, c_in, x_b_some, u_if0, d1, d2, j0, j1, hy]
    have z : x + 0 = x := by simp
    grind
theorem c_judged (M : xM) (k : Nat) : fX0_isJudged M k = some ((if M k 4 = -1 then 0 else 1), M) := by
  unfold fX0_isJudged
  split <;> rfl
theorem q_told {C M : xM} (h : Rel C M) (a b : Int32) : q_Stp (fX10_told C a b) (fX11_told M a b) := by
  obtain ⟨⟨nP, nF, nD, nJ, t, hS, hL, iP, iF, iD, iJ, iR⟩, hR⟩ := id h
  obtain ⟨⟨⟨c0, c1, c2, c3, c4⟩, ⟨s0, s1, s2, s3, s4⟩, ⟨n1, n2, n3, n4, n5⟩⟩, gP, gF, gD, gJ, gR, gL⟩ := id hS
  unfold fX10_told fX11_told
  rw [c_hasDeed, p_isDeed, x_b_some, x_b_some]
  refine q_ck h (by rw [c3, s3]) (fun hp => ?_)
  rw [c3, u_has (by omega)] at hp
  obtain ⟨i, hi, rfl⟩ := hp
  have g0 : C (139 + i) 0 = M 1 (642 + 5 * i) := gD i hi 0 (by decide)
  have g1 : C (139 + i) 1 = M 1 (642 + 5 * i + 1) := gD i hi 1 (by decide)
  have g2 : C (139 + i) 2 = M 1 (642 + 5 * i + 2) := gD i hi 2 (by decide)
  have g3 : C (139 + i) 3 = M 1 (642 + 5 * i + 3) := gD i hi 3 (by decide)
  have g4 : C (139 + i) 4 = M 1 (642 + 5 * i + 4) := gD i hi 4 (by decide)
  have hy : C 23 1 = M 1 2 := gR 1 (by decide)
  rw [u_g (by omega) (by decide), u_c (by omega), c_past c4 n4 hi n3 gD gJ hy, p_in, x_b_some, x_b_some, p_past s4 n4 (by omega)]
  by_cases hb : 0 ≤ b ∧ b ≤ 5
  · rw [if_pos hb, if_neg (show ¬ (1 : Int32) = 0 by decide)]
    obtain ⟨k, hk, rfl⟩ := u_of (n := 5) hb.1 hb.2 (by decide)
    simp only [x_b_some, c_judged, u_if1, u_5, nI_add, g0, g1, g2, g3, g4]
    rw [u_a4, u_g (by omega) (by decide), u_g (by omega) (by decide), u_c (by omega), u_c (by omega)]
    rcases (show k = 0 ∨ k = 1 ∨ k = 2 ∨ k = 3 ∨ k = 4 ∨ k = 5 by omega) with rfl | rfl | rfl | rfl | rfl | rfl
    · exact q_same h rfl rfl
    · exact q_same h rfl rfl
    · exact q_same h rfl rfl
    · exact q_same h rfl rfl
    · exact q_same h rfl rfl
    · refine q_same h (r := if M 1 (642 + 5 * i + 4) = -1 then -1000000005 else M 1 (642 + 5 * i + 4)) ?_ ?_
      · show (if M 1 (642 + 5 * i + 4) = -1 then some (-1000000005, C) else some (M 1 (642 + 5 * i + 4), C)) = _
        split <;> rfl
      · rw [if_neg (by decide), if_pos (by decide), p_orNone, x_b_some]
  · rw [if_neg hb, if_pos (show (0 : Int32) = 0 from rfl)]
    refine q_same h (r := -1000000001) ?_ rfl
    have : ∀ z : Int32, 0 ≤ z → z ≤ 5 → ¬ b = z := fun z z1 z2 e => hb (by rw [e]; exact ⟨z1, z2⟩)
    rw [if_neg (this 0 (by decide) (by decide)), if_neg (this 1 (by decide) (by decide)), if_neg (this 2 (by decide) (by decide)), if_neg (this 3 (by decide) (by decide)), if_neg (this 4 (by decide) (by decide)), if_neg (this 5 (by decide) (by decide))]
/-- deeds of a judgment, of a kind (-1: of all) -/
def sp_deeds (s : Nat → Int32) (nD : Nat) (j kind : Int32) : Int32 := sm (fun d => if s (642 + 5 * d + 4) = j ∧ (kind = -1 ∨ s (642 + 5 * d) = kind) then 1 else 0) nD
theorem p_deeds {M : xM} {nD : Nat} (j kind : Int32) (hD : M 1 19 = nI nD) (hn : nD ≤ 30) : fX11_deedsOf M j kind = some (sp_deeds (M 1) nD j kind, M) := by
  unfold fX11_deedsOf sp_deeds
  refine sm_loop (K := fun x => some (x, M)) (fun fu x i => fX11_deedsOf_L5 j kind fu M x i) _ nD ?_ ?_ x_FU 0 (Nat.zero_le _) (by rw [x_FU_eq]; omega)
  · intro fu x
    rw [fX11_deedsOf_L5, hD, if_pos (Int32.le_refl _)]
  · intro fu x i hi
    rw [fX11_deedsOf_L5, hD, if_neg (u_lie hi (by omega))]
    simp (disch := omega) only [x_l, u_a1, u_a4, u_5, u_g, u_c]
    grind
theorem c_deeds {C : xM} {s : Nat → Int32} {nD : Nat} (j : Int32) (hD : C 1 3 = nI nD) (hn : nD ≤ 30) (gD : r_D 0 C s nD) : fX8_deedsIn C j = some (sp_deeds s nD j (-1), C) := by
  unfold fX8_deedsIn sp_deeds
  refine sm_loop (K := fun x => some (x, C)) (fun fu x i => fX8_deedsIn_L4 j fu C x i) _ nD ?_ ?_ x_FU 0 (Nat.zero_le _) (by rw [x_FU_eq]; omega)
  · intro fu x
    rw [fX8_deedsIn_L4, hD, if_pos (Int32.le_refl _)]
  · intro fu x i hi
    have g4 : C (139 + i) 4 = s (642 + 5 * i + 4) := gD i hi 4 (by decide)
    rw [fX8_deedsIn_L4, hD, if_neg (u_lie hi (by omega))]
    simp (disch := omega) only [x_l, u_a1, u_g, u_c, c_oneIf, x_b_some, g4]
    grind
theorem c_open {C : xM} {s : Nat → Int32} {nD : Nat} (hD : C 1 3 = nI nD) (hn : nD ≤ 30) (gD : r_D 0 C s nD) : fX8_openDeeds C = some (sp_deeds s nD (-1) (-1), C) := by
  unfold fX8_openDeeds sp_deeds
  refine sm_loop (K := fun x => some (x, C)) (fun fu x i => fX8_openDeeds_L4 fu C x i) _ nD ?_ ?_ x_FU 0 (Nat.zero_le _) (by rw [x_FU_eq]; omega)
  · intro fu x
    rw [fX8_openDeeds_L4, hD, if_pos (Int32.le_refl _)]
  · intro fu x i hi
    have g4 : C (139 + i) 4 = s (642 + 5 * i + 4) := gD i hi 4 (by decide)
    rw [fX8_openDeeds_L4, hD, if_neg (u_lie hi (by omega))]
    simp (disch := omega) only [x_l, u_a1, u_g, u_c, c_oneIf, c_judged, x_b_some, g4, u_if1]
    grind
