def sp_own (s : Nat → Int32) (nF : Nat) (i : Nat) (d k : Int32) : Int32 := if s (30 + 3 * i) = 3 then (if sp_what s nF (nI i) 0 d k ≤ sp_what s nF (nI i) 2 d k / 24 then sp_what s nF (nI i) 2 d k / 24 else sp_what s nF (nI i) 0 d k) else sp_what s nF (nI i) 0 d k
def sp_earn (s : Nat → Int32) (nF : Nat) (i : Nat) (d k : Int32) : Int32 := if s (30 + 3 * i + 1) = -1 then sp_own s nF i d k else (sp_own s nF i d k + sp_own s nF (s (30 + 3 * i + 1)).toNatClampNeg d k) / 2
theorem p_own {M : xM} {nF i : Nat} (d k : Int32) (hF : M 1 18 = nI nF) (hn : nF ≤ 96) (hi : i < 12) : fX11_ownEarns M (nI i) d k = some (sp_own (M 1) nF i d k, M) := by
  unfold fX11_ownEarns sp_own
  simp (disch := omega) only [p_what _ _ _ _ hF hn, x_b_some, u_3, u_g, u_c, p_more]
  split <;> rfl
theorem p_earn {M : xM} {nF nP i : Nat} (d k : Int32) (hF : M 1 18 = nI nF) (hn : nF ≤ 96) (hi : i < nP) (hp : nP ≤ 12) (iP : i_P (M 1) nP) : fX11_earns M (nI i) d k = some (sp_earn (M 1) nF i d k, M) := by
  unfold fX11_earns sp_earn
  obtain ⟨-, a2, -⟩ := iP i hi
  simp (disch := omega) only [u_3, u_a1, u_g, u_c, x_l, p_own d k hF hn (show i < 12 by omega), x_b_some]
  rcases a2 with a2 | ⟨x, hx, -, e1, -⟩
  · rw [a2, if_pos rfl, if_pos rfl]
  · simp (disch := omega) only [e1, l_neg, if_false, u_c, p_own d k hF hn (show x < 12 by omega), x_b_some]
theorem c_own {C : xM} {s : Nat → Int32} {nF nP i : Nat} (d k : Int32) (hF : C 1 2 = nI nF) (hn : nF ≤ 96) (hi : i < nP) (hp : nP ≤ 12) (gF : r_F 0 C s nF) (gP : r_P 0 C s nP) (hg : C 23 0 = s 1) : fX8_earningsAlone C (nI i) d k = some (sp_own s nF i d k, C) := by
  unfold fX8_earningsAlone sp_own
  have g0 : C (31 + i) 0 = s (30 + 3 * i) := gP i hi 0 (by decide)
  simp (disch := omega) only [c_what _ _ _ _ hF hn gF hg, x_b_some, u_g, u_c, c_kindP, u_if0, g0]
  by_cases q : s (30 + 3 * i) = 3
  · rw [if_pos q, if_neg (by rw [q]; decide)]
    congr 2
    grind
  · rw [if_neg q, if_pos (by grind)]
theorem c_earn {C : xM} {s : Nat → Int32} {nF nP i : Nat} (d k : Int32) (hF : C 1 2 = nI nF) (hN : C 1 1 = nI nP) (hn : nF ≤ 96) (hi : i < nP) (hp : nP ≤ 12) (gF : r_F 0 C s nF) (gP : r_P 0 C s nP) (hg : C 23 0 = s 1) (iP : i_P s nP) : fX8_earnings C (nI i) d k = some (sp_earn s nF i d k, C) := by
  unfold fX8_earnings sp_earn
  have g1 : C (31 + i) 1 = s (30 + 3 * i + 1) := gP i hi 1 (by decide)
  obtain ⟨-, a2, -⟩ := iP i hi
  simp (disch := omega) only [x_l, c_own d k hF hn hi hp gF gP hg, x_b_some, u_g, u_c, c_hasPerson, u_if0, g1, hN]
  rcases a2 with a2 | ⟨x, hx, -, e1, -⟩
  · rw [a2, if_pos rfl, if_pos (by rw [u_has (by omega)]; rintro ⟨z, hz, ez⟩; exact (l_neg' (show z < 2 ^ 31 by omega)) ▸ ez)]
  · rw [e1, if_neg (not_not_intro ((u_has (show nP < 2 ^ 31 by omega)).mpr ⟨x, hx, rfl⟩)), c_own d k hF hn hx hp gF gP hg, x_b_some, u_c (by omega), if_neg (by rw [l_neg (by omega)]; exact id)]
/-- bounds -/
theorem b_what {s : Nat → Int32} {nF : Nat} (p w d k : Int32) (iF : i_F s nF) (iR : i_R s) : ∃ v, v ≤ 99999 ∧ sp_what s nF p w d k = nI v := by
  unfold sp_what
  cases hb : sp_best s p w d k nF with
  | none =>
    show ∃ v, v ≤ 99999 ∧ (if w = 0 then s 1 else 0) = nI v
    split
    · obtain ⟨v, -, hv, e⟩ := iR.1 0 (by decide)
      exact ⟨v, hv, e⟩
    · exact ⟨0, by omega, rfl⟩
  | some x => exact iF x (sp_best_lt hb)
theorem b_own {s : Nat → Int32} {nF : Nat} (i : Nat) (d k : Int32) (iF : i_F s nF) (iR : i_R s) : ∃ v, v ≤ 99999 ∧ sp_own s nF i d k = nI v := by
  unfold sp_own
  obtain ⟨v, hv, e⟩ := b_what (nI i) 0 d k iF iR
  obtain ⟨v2, hv2, e2⟩ := b_what (nI i) 2 d k iF iR
  rw [e, e2, show (24 : Int32) = nI 24 from rfl, pk_div (by omega) (by decide) (by decide)]
  split
  · split
    · exact ⟨v2 / 24, by omega, rfl⟩
    · exact ⟨v, hv, rfl⟩
  · exact ⟨v, hv, rfl⟩
theorem b_earn {s : Nat → Int32} {nF : Nat} (i : Nat) (d k : Int32) (iF : i_F s nF) (iR : i_R s) : ∃ v, v ≤ 99999 ∧ sp_earn s nF i d k = nI v := by
  unfold sp_earn
  obtain ⟨v, hv, e⟩ := b_own i d k iF iR
  obtain ⟨v2, hv2, e2⟩ := b_own (s (30 + 3 * i + 1)).toNatClampNeg d k iF iR
  rw [e, e2, nI_add, show (2 : Int32) = nI 2 from rfl, pk_div (by omega) (by decide) (by decide)]
  split
  · exact ⟨v, hv, rfl⟩
  · exact ⟨(v + v2) / 2, by omega, rfl⟩
theorem q_known {C M : xM} (h : Rel C M) (a b c d : Int32) : q_Stp (fX10_known C a b c d) (fX11_known M a b c d) := by
  obtain ⟨⟨nP, nF, nD, nJ, t, hS, hL, iP, iF, iD, iJ, iR⟩, hR⟩ := id h
  obtain ⟨⟨⟨c0, c1, c2, c3, c4⟩, ⟨s0, s1, s2, s3, s4⟩, ⟨n1, n2, n3, n4, n5⟩⟩, gP, gF, gD, gJ, gR, gL⟩ := id hS
  unfold fX10_known fX11_known
  have hg : C 23 0 = M 1 1 := gR 0 (by decide)
  rw [c_hasPerson, p_isPerson, x_b_some, x_b_some]
  refine q_ck h (by rw [c1, s1]) (fun hp => ?_)
  rw [c1, u_has (by omega)] at hp
  obtain ⟨i, hi, rfl⟩ := hp
  rw [c_in, p_in, x_b_some, x_b_some]
  refine q_ck h Iff.rfl (fun hb => ?_)
  rw [c_in, p_in, x_b_some, x_b_some]
  refine q_ck h Iff.rfl (fun hc => ?_)
  rw [c_in, p_in, x_b_some, x_b_some]
  refine q_ck h (by rw [c0, s0]) (fun hd => ?_)
  rw [c_earn _ _ c2 c1 n2 hi n1 gF gP hg iP, p_earn _ _ s2 n2 hi n1 iP, c_what _ _ _ _ c2 n2 gF hg, p_what _ _ _ _ s2 n2]
  simp only [x_b_some]
  by_cases q : b = 4
  · rw [if_pos q, if_pos q]
    exact q_same h rfl rfl
  · rw [if_neg q, if_neg q]
    exact q_same h rfl rfl
