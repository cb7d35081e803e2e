def sp_rx (s : Nat → Int32) (nF i : Nat) (m : Int32) : Int32 := sp_earn s nF i (s 0 + 30 * m) (s 0) - s 14 * (1 + sp_what s nF (nI i) 1 (s 0 + 30 * m) (s 0)) - sp_what s nF (nI i) 3 (s 0 + 30 * m) (s 0)
def sp_room (s : Nat → Int32) (nF i : Nat) (m : Int32) : Int32 := if 0 < sp_rx s nF i m then sp_rx s nF i m * s 15 / 100 else 0
theorem p_room {M : xM} {nF nP i : Nat} (m : Int32) (hF : M 1 18 = nI nF) (hn : nF ≤ 96) (hi : i < nP) (hp : nP ≤ 12) (iP : i_P (M 1) nP) : fX11_roomOf M (nI i) m = some (sp_room (M 1) nF i m, M) := by
  unfold fX11_roomOf sp_room
  simp only [x_l, p_earn _ _ hF hn hi hp iP, p_what _ _ _ _ hF hn, x_b_some, u_ifs]
  rfl
theorem c_room {C : xM} {s : Nat → Int32} {nF nP i : Nat} (m : Int32) (hF : C 1 2 = nI nF) (hN : C 1 1 = nI nP) (hT : C 1 0 = s 0) (hn : nF ≤ 96) (hi : i < nP) (hp : nP ≤ 12) (gF : r_F 0 C s nF) (gP : r_P 0 C s nP) (gR : r_U 0 C s) (iP : i_P s nP) : fX8_roomOf C (nI i) m = some (sp_room s nF i m, C) := by
  have hg : C 23 0 = s 1 := gR 0 (by decide)
  have h13 : C 23 13 = s 14 := gR 13 (by decide)
  have h14 : C 23 14 = s 15 := gR 14 (by decide)
  unfold fX8_roomOf sp_room
  simp only [x_l, c_earn _ _ hF hN hn hi hp gF gP hg iP, c_what _ _ _ _ hF hn gF hg, x_b_some, hT, h13, h14]
  show some ((if 0 < sp_rx s nF i m then sp_rx s nF i m else 0) * s 15 / 100, C) = _
  split
  · rfl
  · have : (0 : Int32) * s 15 / 100 = 0 := by rw [Int32.zero_mul]; rfl
    rw [this]
theorem q_room {C M : xM} (h : Rel C M) (a b : Int32) : q_Stp (fX10_room C a b) (fX11_room M a b) := by
  obtain ⟨⟨nP, nF, nD, nJ, t, hS, hL, iP, iF, iD, iJ, iR⟩, hR⟩ := id h
  obtain ⟨⟨⟨c0, c1, c2, c3, c4⟩, ⟨s0, s1, s2, s3, s4⟩, ⟨n1, n2, n3, n4, n5⟩⟩, gP, gF, gD, gJ, gR, gL⟩ := id hS
  unfold fX10_room fX11_room
  rw [c_hasPerson, p_isPerson, x_b_some, x_b_some]
  refine q_ck h (by rw [c1, s1]) (fun hp => ?_)
  rw [c1, u_has (by omega)] at hp
  obtain ⟨i, hi, rfl⟩ := hp
  rw [c_in, p_in, x_b_some, x_b_some]
  refine q_ck h Iff.rfl (fun hb => ?_)
  rw [c_room _ c2 c1 (c0.trans s0.symm) n2 hi n1 gF gP gR iP, p_room _ s2 n2 hi n1 iP, x_b_some, x_b_some]
  exact q_same h rfl rfl
/-! alike -/
def sp_wt (s : Nat → Int32) (nD : Nat) (j : Int32) : Int32 := sm (fun d => if s (642 + 5 * d + 4) = j then s (642 + 5 * d + 3) else 0) nD
def sp_yg (s : Nat → Int32) (i : Nat) : Prop := 1 ≤ s (30 + 3 * i) ∧ s (30 + 3 * i) ≤ 2
theorem p_wt {M : xM} {nD : Nat} (j : Int32) (hD : M 1 19 = nI nD) (hn : nD ≤ 30) : fX11_weights M j = some (sp_wt (M 1) nD j, M) := by
  unfold fX11_weights sp_wt
  refine sm_loop (K := fun x => some (x, M)) (fun fu x i => fX11_weights_L4 j fu M x i) _ nD ?_ ?_ x_FU 0 (Nat.zero_le _) (by rw [x_FU_eq]; omega)
  · intro fu x
    rw [fX11_weights_L4, hD, if_pos (Int32.le_refl _)]
  · intro fu x i hi
    rw [fX11_weights_L4, hD, if_neg (u_lie hi (by omega))]
    simp (disch := omega) only [x_l, u_a1, u_a3, u_a4, u_5, u_g, u_c]
    grind
/-- as many of each kind, weights near, both young or not -/
def sp_al (s : Nat → Int32) (nD : Nat) (i j : Nat) : Prop := (if 0 ≤ sp_wt s nD (nI i) - sp_wt s nD (nI j) then sp_wt s nD (nI i) - sp_wt s nD (nI j) else -(sp_wt s nD (nI i) - sp_wt s nD (nI j))) ≤ 5 ∧ (sp_yg s (s (792 + 10 * i)).toNatClampNeg ↔ sp_yg s (s (792 + 10 * j)).toNatClampNeg) ∧ ∀ k, k < 4 → sp_deeds s nD (nI i) (nI k) = sp_deeds s nD (nI j) (nI k)
theorem p_alL {M : xM} {nD : Nat} (i j : Int32) (hD : M 1 19 = nI nD) (hn : nD ≤ 30) : ∀ (fu k : Nat) (v : Int32), k ≤ 4 → 4 - k < fu → v = 0 ∨ v = 1 → ∃ r, (r = 0 ∨ r = 1) ∧ fX11_areAlike_L64 i j fu M v (nI k) = some (r, M) ∧ (r = 1 ↔ v = 1 ∧ ∀ x, k ≤ x → x < 4 → sp_deeds (M 1) nD i (nI x) = sp_deeds (M 1) nD j (nI x)) := by
  intro fu
  induction fu with
  | zero => intro k v _ h; omega
  | succ n ih =>
    intro k v hk hf hv
    rw [fX11_areAlike_L64]
    by_cases q : k = 4
    · subst q
      rw [if_pos (show (4 : Int32) ≤ nI 4 from Int32.le_refl _)]
      refine ⟨v, hv, ?_, ⟨fun e => ⟨e, fun x h1 h2 => by omega⟩, fun e => e.1⟩⟩
      rcases hv with rfl | rfl
      · rw [x_zl0]
      · rw [x_zl1]
    · rw [if_neg (show ¬ (4 : Int32) ≤ nI k from u_lie (a := k) (b := 4) (by omega) (by decide))]
      simp (disch := omega) only [x_l, p_deeds _ _ hD hn, x_b_some, u_a1]
      rcases hv with rfl | rfl
      · rw [if_pos rfl]
        obtain ⟨r, h1, h2, h3⟩ := ih (k + 1) 0 (by omega) (by omega) (Or.inl rfl)
        exact ⟨r, h1, h2, h3.trans ⟨fun e => absurd e.1 (by decide), fun e => absurd e.1 (by decide)⟩⟩
      · rw [if_neg (by decide)]
        by_cases q2 : sp_deeds (M 1) nD i (nI k) = sp_deeds (M 1) nD j (nI k)
        · rw [if_pos q2]
          obtain ⟨r, h1, h2, h3⟩ := ih (k + 1) 1 (by omega) (by omega) (Or.inr rfl)
          refine ⟨r, h1, h2, h3.trans ⟨fun e => ⟨rfl, fun x x1 x2 => ?_⟩, fun e => ⟨rfl, fun x x1 x2 => e.2 x (by omega) x2⟩⟩⟩
          by_cases x3 : x = k
          · rw [x3]; exact q2
          · exact e.2 x (by omega) x2
        · rw [if_neg q2]
          obtain ⟨r, h1, h2, h3⟩ := ih (k + 1) 0 (by omega) (by omega) (Or.inl rfl)
          exact ⟨r, h1, h2, h3.trans ⟨fun e => absurd e.1 (by decide), fun e => absurd (e.2 k (Nat.le_refl _) (by omega)) q2⟩⟩
theorem p_al {M : xM} {nD nP nJ t i j : Nat} (hD : M 1 19 = nI nD) (hn : nD ≤ 30) (hi : i < nJ) (hj : j < nJ) (hn2 : nJ ≤ 16) (hp : nP ≤ 12) (iJ : i_J (M 1) nP nJ t) : ∃ r, (r = 0 ∨ r = 1) ∧ fX11_areAlike M (nI i) (nI j) = some (r, M) ∧ (r = 1 ↔ sp_al (M 1) nD i j) := by
  obtain ⟨⟨p, hp1, ep⟩, -⟩ := iJ.1 i hi
  obtain ⟨⟨q, hq1, eq⟩, -⟩ := iJ.1 j hj
  unfold fX11_areAlike
  simp (disch := omega) only [x_l, p_wt _ hD hn, x_b_some, p_size, u_10, u_g, u_c, ep, eq, p_isYoung M (show p < 12 by omega), p_isYoung M (show q < 12 by omega)]
  unfold sp_al
  rw [ep, eq, u_c (by omega), u_c (by omega)]
  generalize (if 0 ≤ sp_wt (M 1) nD (nI i) - sp_wt (M 1) nD (nI j) then sp_wt (M 1) nD (nI i) - sp_wt (M 1) nD (nI j) else -(sp_wt (M 1) nD (nI i) - sp_wt (M 1) nD (nI j))) = w
  by_cases w5 : w ≤ 5
  · rw [if_neg (Int32.not_lt.mpr w5)]
    have hy : ((if 1 ≤ M 1 (30 + 3 * p) ∧ M 1 (30 + 3 * p) ≤ 2 then 1 else 0 : Int32) = (if 1 ≤ M 1 (30 + 3 * q) ∧ M 1 (30 + 3 * q) ≤ 2 then 1 else 0)) ↔ (sp_yg (M 1) p ↔ sp_yg (M 1) q) := by
      unfold sp_yg
      by_cases a1 : 1 ≤ M 1 (30 + 3 * p) ∧ M 1 (30 + 3 * p) ≤ 2 <;> by_cases a2 : 1 ≤ M 1 (30 + 3 * q) ∧ M 1 (30 + 3 * q) ≤ 2 <;> simp [a1, a2]
    by_cases y : sp_yg (M 1) p ↔ sp_yg (M 1) q
    · rw [if_pos (hy.mpr y)]
      obtain ⟨r, h1, h2, h3⟩ := p_alL (nI i) (nI j) hD hn x_FU 0 1 (by omega) (by rw [x_FU_eq]; omega) (Or.inr rfl)
      exact ⟨r, h1, h2, h3.trans ⟨fun e => ⟨w5, y, fun k hk => e.2 k (Nat.zero_le _) hk⟩, fun e => ⟨rfl, fun x _ hx => e.2.2 x hx⟩⟩⟩
    · rw [if_neg (fun z => y (hy.mp z))]
      obtain ⟨r, h1, h2, h3⟩ := p_alL (nI i) (nI j) hD hn x_FU 0 0 (by omega) (by rw [x_FU_eq]; omega) (Or.inl rfl)
      exact ⟨r, h1, h2, h3.trans ⟨fun e => absurd e.1 (by decide), fun e => absurd e.2.1 y⟩⟩
  · rw [if_pos (Int32.not_le.mp w5)]
    obtain ⟨r, h1, h2, h3⟩ := p_alL (nI i) (nI j) hD hn x_FU 0 0 (by omega) (by rw [x_FU_eq]; omega) (Or.inl rfl)
    exact ⟨r, h1, h2, h3.trans ⟨fun e => absurd e.1 (by decide), fun e => absurd e.1 w5⟩⟩
