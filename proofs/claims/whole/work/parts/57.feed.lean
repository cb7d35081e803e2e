/-! feed: bytes -/
theorem u_bv (x : BitVec 32) (n : Nat) (hn : n ≤ 24) : x.sshiftRight n &&& 255#32 = x >>> n &&& 255#32 := by
  apply BitVec.eq_of_getLsbD_eq
  intro i hi
  rw [BitVec.getLsbD_and, BitVec.getLsbD_and, BitVec.getLsbD_sshiftRight, BitVec.getLsbD_ushiftRight]
  by_cases h : i < 8
  · rw [if_pos (by omega)]
    simp [show ¬ 32 ≤ i by omega]
  · have e : (255#32).getLsbD i = false := by
      have : ∀ j, j < 32 → ¬ j < 8 → (255#32).getLsbD j = false := by decide
      exact this i hi h
    rw [e, Bool.and_false, Bool.and_false]
theorem u_by (x : Int32) : ∀ k, k < 4 → ((x >>> ((24 - (nI k * 8)) &&& 31)) &&& 255) = (((x.toUInt32 >>> ((24 - 8 * nI k).toUInt32 &&& Int32.toUInt32 31)).toInt32) &&& 255) := by
  intro k hk
  rcases (show k = 0 ∨ k = 1 ∨ k = 2 ∨ k = 3 by omega) with rfl | rfl | rfl | rfl
  · exact Int32.toBitVec_inj.1 (u_bv x.toBitVec 24 (by decide))
  · exact Int32.toBitVec_inj.1 (u_bv x.toBitVec 16 (by decide))
  · exact Int32.toBitVec_inj.1 (u_bv x.toBitVec 8 (by decide))
  · exact Int32.toBitVec_inj.1 (u_bv x.toBitVec 0 (by decide))
theorem u_255 (x : Int32) : ∃ v, v ≤ 255 ∧ x &&& 255 = nI v := by
  refine ⟨x.toBitVec.toNat % 256, by omega, ?_⟩
  apply Int32.toBitVec_inj.1
  apply BitVec.eq_of_toNat_eq
  have e : (x &&& 255).toBitVec.toNat = x.toBitVec.toNat % 256 := by
    show (x.toBitVec &&& 255#32).toNat = _
    rw [BitVec.toNat_and]
    exact Nat.and_two_pow_sub_one_eq_mod _ 8
  rw [e]
  show _ = (BitVec.ofNat 32 _).toNat
  rw [BitVec.toNat_ofNat]
  exact (Nat.mod_eq_of_lt (show x.toBitVec.toNat % 256 < 2 ^ 32 by omega)).symm
/-- the byte that the reference lays at i -/
noncomputable def y_by (a b c : Int32) (i : Nat) : Int32 := ((if i < 4 then a else if i < 8 then b else c) >>> ((24 - ((nI i - nI i / 4 * 4) * 8)) &&& 31)) &&& 255
noncomputable def y_b4 (a : Int32) (i : Nat) : Int32 := ((a.toUInt32 >>> ((24 - (8 * nI i)).toUInt32 &&& Int32.toUInt32 31)).toInt32) &&& 255
theorem y_eq (a b c : Int32) : ∀ i, i < 12 → y_by a b c i = if i < 4 then y_b4 a i else if i < 8 then y_b4 b (i - 4) else y_b4 c (i - 8) := by
  intro i hi
  unfold y_by y_b4
  have d : ∀ j, j < 12 → nI j - nI j / 4 * 4 = nI (j % 4) := by decide
  rw [d i hi]
  by_cases h1 : i < 4
  · rw [if_pos h1, if_pos h1, Nat.mod_eq_of_lt h1]
    exact u_by a i h1
  · rw [if_neg h1, if_neg h1]
    by_cases h2 : i < 8
    · rw [if_pos h2, if_pos h2, show i % 4 = i - 4 by omega]
      exact u_by b _ (by omega)
    · rw [if_neg h2, if_neg h2, show i % 4 = i - 8 by omega]
      exact u_by c _ (by omega)
theorem p_fd {M : xM} {m : Nat} (hm : m + 12 ≤ 120) (e4 : M 0 4 = nI m) (a b c : Int32) (k : xM → Option (Int32 × xM)) : ∀ (fu i : Nat), i ≤ 12 → 12 - i < fu → fX11_feed_L18 a b c k fu (x_ft M 3 m i (y_by a b c)) (nI i) = k (x_ft M 3 m 12 (y_by a b c)) := by
  intro fu
  induction fu with
  | zero => intro i _ h; omega
  | succ f ih =>
    intro i hi hf
    rw [fX11_feed_L18]
    by_cases q : i = 12
    · subst q
      rw [if_pos (by decide)]
    · rw [if_neg (show ¬ (12 : Int32) ≤ nI i from u_lie (b := 12) (by omega) (by omega))]
      have e := ih (i + 1) (by omega) (by omega)
      rw [← x_ft_s] at e
      have e0 : x_ft M 3 m i (y_by a b c) 0 4 = nI m := (x_ft_ne (by decide)).trans e4
      have l4 : ((4 : Int32) ≤ nI i) = (4 ≤ i) := l_len (a := 4) (by omega) (by omega)
      have l8 : ((8 : Int32) ≤ nI i) = (8 ≤ i) := l_len (a := 8) (by omega) (by omega)
      simp (disch := omega) only [x_l, e0, nI_add, u_g, u_c, u_a1, l4, l8]
      refine Eq.trans ?_ e
      unfold y_by
      by_cases h1 : i < 4
      · rw [if_neg (by omega), if_pos h1]
      · rw [if_pos (by omega), if_neg h1]
        by_cases h2 : i < 8
        · rw [if_neg (by omega), if_pos h2]
        · rw [if_pos (by omega), if_neg h2]
theorem c_fd {M : xM} {m : Nat} (hm : m + 4 ≤ 120) (e4 : M 11 1 = nI m) (a : Int32) (k : xM → Option xM) : ∀ (fu i : Nat), i ≤ 4 → 4 - i < fu → fX9_addFour_L14 a k fu (x_ft M 14 m i (y_b4 a)) (nI i) = k (x_ft M 14 m 4 (y_b4 a)) := by
  intro fu
  induction fu with
  | zero => intro i _ h; omega
  | succ f ih =>
    intro i hi hf
    rw [fX9_addFour_L14]
    by_cases q : i = 4
    · subst q
      rw [if_pos (by decide)]
    · rw [if_neg (show ¬ (4 : Int32) ≤ nI i from u_lie (b := 4) (by omega) (by omega))]
      have e := ih (i + 1) (by omega) (by omega)
      rw [← x_ft_s] at e
      have e0 : x_ft M 14 m i (y_b4 a) 11 1 = nI m := (x_ft_ne (by decide)).trans e4
      simp (disch := omega) only [x_l, e0, nI_add, u_g, u_c, u_a1]
      exact e
theorem c_a4 {M : xM} {m : Nat} (hm : m + 4 ≤ 120) (e4 : M 11 1 = nI m) (a : Int32) : fX9_addFour M a = some (x_up (x_ft M 14 m 4 (y_b4 a)) 11 1 (nI (m + 4))) := by
  unfold fX9_addFour
  rw [e4, if_pos (show nI m + (4 : Int32) ≤ (120 : Int32) from (by rw [nI_add, l_len (by omega) (by omega)]; exact hm : nI m + nI 4 ≤ nI 120))]
  have e := c_fd hm e4 a (fun (M_3 : xM) => x_l (x_up M_3 11 1 ((M_3 11 1) + 4)) fun M_4 => some M_4) x_FU 0 (by omega) (by rw [x_FU_eq]; omega)
  rw [x_ft_0] at e
  refine (Eq.trans ?_ e).trans ?_
  · rfl
  · show some (x_up _ 11 1 (x_ft M 14 m 4 (y_b4 a) 11 1 + nI 4)) = _
    rw [x_ft_ne (by decide), e4, nI_add]
theorem Rel.tape {C C' M M' : xM} (h : Rel C M) (hc : ∀ a b, (a = 0 ∨ a = 1 ∨ a = 2 ∨ (5 ≤ a ∧ a ≤ 10) ∨ (19 ≤ a ∧ a ≤ 27) ∨ (31 ≤ a ∧ a ≤ 193) ∨ 197 ≤ a) → C' a b = C a b) (hm : ∀ a b, ((a = 0 ∧ (b = 2 ∨ b = 27)) ∨ a = 1 ∨ a = 2 ∨ a = 12 ∨ a = 13 ∨ a = 14) → M' a b = M a b) (tp : r_Tp C' M') : Rel C' M' := by
  obtain ⟨⟨nP, nF, nD, nJ, t, h1, h2, h3⟩, h4, -, ⟨m, w1, w2, w3, w4⟩, s0, s1⟩ := h
  have e1 : M' 1 = M 1 := funext fun j => hm 1 j (by simp)
  refine ⟨⟨nP, nF, nD, nJ, t, ?_⟩, h4.keep (hc _ _ (by simp)) (fun j => hc _ _ (by simp)) (fun a j q => hc _ _ (by omega)) (hm _ _ (by simp)) (fun j => hm _ _ (by simp)), tp, ⟨m, w1, ?_, ?_, fun i hi => ?_⟩, ?_, ?_⟩
  · rw [e1]
    exact ⟨h1.keep (fun j => hc _ _ (by simp)) (fun a j q => hc _ _ (by omega)), h2.keep (fun a j q => hc _ _ (by omega)), h3⟩
  · rw [hm _ _ (by simp)]; exact w2
  · rw [hc _ _ (by simp)]; exact w3
  · rw [hc _ _ (by simp), hm _ _ (by simp)]; exact w4 i hi
  · unfold r_S1 at s0 ⊢
    simp only [hc 7 _ (by simp), hc 8 _ (by simp), hc (9 + 0) _ (by simp), hm 14 _ (by simp), hm 13 _ (by simp)]
    exact s0
  · unfold r_S1 at s1 ⊢
    simp only [hc 7 _ (by simp), hc 8 _ (by simp), hc (9 + 1) _ (by simp), hm 14 _ (by simp), hm 13 _ (by simp)]
    exact s1
theorem q_feed {C M : xM} (h : Rel C M) (a b c : Int32) : q_Stp (fX10_feed C a b c) (fX11_feed M a b c) := by
  obtain ⟨n, hn, t2, t3, t4⟩ := h.2.2.1
  unfold fX10_feed fX11_feed
  rw [t2, t3]
  have el : (nI n + 12 ≤ (120 : Int32)) = (n + 12 ≤ 120) := by
    rw [show nI n + (12 : Int32) = nI (n + 12) from nI_add n 12]
    exact l_len (b := 120) (by omega) (by omega)
  simp only [el]
  by_cases hq : n + 12 ≤ 120
  · rw [if_pos hq, if_pos hq]
    have a1 := c_a4 (M := C) (m := n) (by omega) t3 a
    have a2 := c_a4 (M := x_up (x_ft C 14 n 4 (y_b4 a)) 11 1 (nI (n + 4))) (m := n + 4) (by omega) (by simp (disch := omega) only [x_uo, x_uj, x_us]) b
    have a3 := c_a4 (M := x_up (x_ft (x_up (x_ft C 14 n 4 (y_b4 a)) 11 1 (nI (n + 4))) 14 (n + 4) 4 (y_b4 b)) 11 1 (nI (n + 4 + 4))) (m := n + 4 + 4) (by omega) (by simp (disch := omega) only [x_uo, x_uj, x_us]) c
    have e := p_fd (M := M) hq t2 a b c (fun (M_3 : xM) => x_l (x_up M_3 0 4 ((M_3 0 4) + 12)) fun M_4 => some ((M_4 0 4), M_4)) x_FU 0 (by omega) (by rw [x_FU_eq]; omega)
    rw [x_ft_0] at e
    refine ⟨nI (n + 4 + 4 + 4), x_up (x_ft (x_up (x_ft (x_up (x_ft C 14 n 4 (y_b4 a)) 11 1 (nI (n + 4))) 14 (n + 4) 4 (y_b4 b)) 11 1 (nI (n + 4 + 4))) 14 (n + 4 + 4) 4 (y_b4 c)) 11 1 (nI (n + 4 + 4 + 4)), x_up (x_ft M 3 n 12 (y_by a b c)) 0 4 (nI (n + 12)), ?_, (Eq.trans ?_ e).trans ?_, ?_⟩
    · rw [a1]
      show x_v (fX9_addFour _ b) _ = _
      rw [a2]
      show x_v (fX9_addFour _ c) _ = _
      rw [a3]
      show some (_, _) = _
      rw [show ∀ (Z : xM) (v : Int32), x_up Z 11 1 v 11 1 = v from fun Z v => by simp (disch := omega) only [x_uo, x_uj, x_us]]
    · rfl
    · show some (x_up _ 0 4 (x_ft M 3 n 12 (y_by a b c) 0 4 + nI 12) 0 4, x_up _ 0 4 (x_ft M 3 n 12 (y_by a b c) 0 4 + nI 12)) = _
      rw [x_ft_ne (by decide), t2, nI_add, show ∀ (Z : xM) (v : Int32), x_up Z 0 4 v 0 4 = v from fun Z v => by simp (disch := omega) only [x_uo, x_uj, x_us]]
    · refine h.tape (fun x y q => ?_) (fun x y q => ?_) ⟨n + 12, hq, ?_, ?_, fun i hi => ?_⟩
      · simp (disch := omega) only [x_uo, x_uj, x_us, x_ft_ne]
      · rcases q with ⟨rfl, q⟩ | q
        · simp (disch := omega) only [x_uo, x_uj, x_us, x_ft_ne]
        · simp (disch := omega) only [x_uo, x_uj, x_us, x_ft_ne]
      · simp (disch := omega) only [x_uo, x_uj, x_us]
      · simp (disch := omega) only [x_uo, x_uj, x_us]
      · by_cases q1 : i < n
        · simp (disch := omega) only [x_uo, x_uj, x_us, x_ft_out, x_ft_ne]
          exact t4 i q1
        · have e1 : ∀ (Z : xM) (v : Int32), x_up Z 0 4 v 3 i = Z 3 i := fun Z v => by simp (disch := omega) only [x_uo, x_uj, x_us]
          have e2 : ∀ (Z : xM) (v : Int32), x_up Z 11 1 v 14 i = Z 14 i := fun Z v => by simp (disch := omega) only [x_uo, x_uj, x_us]
          rw [e1, x_ft_in (by omega) (by omega), e2, y_eq a b c _ (by omega)]
          refine ⟨?_, ?_⟩
          · by_cases q2 : i < n + 4
            · rw [x_ft_out (by omega), e2, x_ft_out (by omega), e2, x_ft_in (by omega) (by omega), if_pos (by omega)]
            · rw [if_neg (by omega)]
              by_cases q3 : i < n + 4 + 4
              · rw [x_ft_out (by omega), e2, x_ft_in (by omega) (by omega), if_pos (by omega), show i - (n + 4) = i - n - 4 by omega]
              · rw [x_ft_in (by omega) (by omega), if_neg (by omega), show i - (n + 4 + 4) = i - n - 8 by omega]
          · rw [← y_eq a b c _ (by omega)]
            exact u_255 _
  · rw [if_neg hq, if_neg hq]
    exact q_same h rfl rfl
