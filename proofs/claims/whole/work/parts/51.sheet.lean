theorem Rel.sheets {C C' M M' : xM} (h : Rel C M) (hc : ∀ a b, (a = 0 ∨ a = 1 ∨ a = 2 ∨ a = 5 ∨ a = 6 ∨ (a = 11 ∧ b = 1) ∨ a = 14 ∨ (19 ≤ a ∧ a ≤ 27) ∨ (31 ≤ a ∧ a ≤ 193) ∨ 197 ≤ a) → C' a b = C a b) (hm : ∀ a b, ((a = 0 ∧ (b = 2 ∨ b = 4 ∨ b = 27)) ∨ a = 1 ∨ a = 2 ∨ a = 3 ∨ a = 12) → M' a b = M a b) (s0 : r_S1 0 C' M') (s1 : r_S1 1 C' M') : Rel C' M' := by
  obtain ⟨⟨nP, nF, nD, nJ, t, h1, h2, h3⟩, h4, ⟨n, t1, t2, t3, t4⟩, ⟨m, w1, w2, w3, w4⟩, -, -⟩ := h
  have e1 : M' 1 = M 1 := funext fun j => hm 1 j (by simp)
  refine ⟨⟨nP, nF, nD, nJ, t, ?_⟩, h4.keep (hc _ _ (by simp)) (fun j => hc _ _ (by simp)) (fun a j q => hc _ _ (by omega)) (hm _ _ (by simp)) (fun j => hm _ _ (by simp)), ⟨n, t1, ?_, ?_, fun i hi => ?_⟩, ⟨m, w1, ?_, ?_, fun i hi => ?_⟩, s0, s1⟩
  · rw [e1]
    exact ⟨h1.keep (fun j => hc _ _ (by simp)) (fun a j q => hc _ _ (by omega)), h2.keep (fun a j q => hc _ _ (by omega)), h3⟩
  · rw [hm _ _ (by simp)]; exact t2
  · rw [hc _ _ (by simp)]; exact t3
  · rw [hc _ _ (by simp), hm _ _ (by simp)]; exact t4 i hi
  · rw [hm _ _ (by simp)]; exact w2
  · rw [hc _ _ (by simp)]; exact w3
  · rw [hc _ _ (by simp), hm _ _ (by simp)]; exact w4 i hi
theorem Rel.s1 {C M : xM} (h : Rel C M) {z : Nat} (hz : z < 2) : r_S1 z C M := by
  rcases (show z = 0 ∨ z = 1 by omega) with rfl | rfl
  · exact h.2.2.2.2.1
  · exact h.2.2.2.2.2
theorem Rel.sheets2 {C C' M M' : xM} {z : Nat} (hz : z < 2) (h : Rel C M) (hc : ∀ a b, (a = 0 ∨ a = 1 ∨ a = 2 ∨ a = 5 ∨ a = 6 ∨ (a = 11 ∧ b = 1) ∨ a = 14 ∨ (19 ≤ a ∧ a ≤ 27) ∨ (31 ≤ a ∧ a ≤ 193) ∨ 197 ≤ a) → C' a b = C a b) (hm : ∀ a b, ((a = 0 ∧ (b = 2 ∨ b = 4 ∨ b = 27)) ∨ a = 1 ∨ a = 2 ∨ a = 3 ∨ a = 12) → M' a b = M a b) (s0 : r_S1 z C' M') (ho : ∀ y, y < 2 → y ≠ z → C' 7 y = C 7 y ∧ C' 8 y = C 8 y ∧ M' 14 y = M 14 y ∧ ∀ i, i < 24 → C' (9 + y) i = C (9 + y) i ∧ M' 13 (24 * y + i) = M 13 (24 * y + i)) : Rel C' M' := by
  have key : ∀ y, y < 2 → r_S1 y C' M' := by
    intro y hy
    by_cases q : y = z
    · rw [q]; exact s0
    · obtain ⟨a1, a2, a3, a4⟩ := ho y hy q
      rcases h.s1 hy with ⟨b1, b2⟩ | ⟨n, b0, b1, b2, b3, b4⟩
      · exact Or.inl ⟨a3.trans b1, a1.trans b2⟩
      · refine Or.inr ⟨n, b0, a3.trans b1, a1.trans b2, a2.trans b3, fun i hi => ?_⟩
        rw [(a4 i (by omega)).1, (a4 i (by omega)).2]
        exact b4 i hi
  exact h.sheets hc hm (key 0 (by omega)) (key 1 (by omega))
/-- places lo .. hi - 1 of a cell are v -/
def x_fl (M : xM) (k lo hi : Nat) (v : Int32) : xM := fun a b => if a = k ∧ lo ≤ b ∧ b < hi then v else M a b
theorem x_fl_0 (M : xM) (k lo : Nat) (v : Int32) : x_fl M k lo lo v = M := by
  funext a b
  exact if_neg (by omega)
theorem x_fl_s (M : xM) (k : Nat) {lo hi : Nat} (h : lo < hi) (v : Int32) : x_fl (x_up M k lo v) k (lo + 1) hi v = x_fl M k lo hi v := by
  funext a b
  unfold x_fl
  rw [x_up_at]
  by_cases h1 : a = k
  · by_cases h2 : b = lo
    · rw [if_neg (by omega), if_pos h1, if_pos h2, if_pos (by omega)]
    · by_cases h3 : lo + 1 ≤ b ∧ b < hi
      · rw [if_pos ⟨h1, h3⟩, if_pos (by omega)]
      · rw [if_neg (fun q => h3 q.2), if_pos h1, if_neg h2, if_neg (by omega)]
  · rw [if_neg (fun q => h1 q.1), if_neg h1, if_neg (fun q => h1 q.1)]
theorem x_fl_ne {M : xM} {k lo hi a b : Nat} {v : Int32} (h : a ≠ k) : x_fl M k lo hi v a b = M a b := if_neg (fun q => h q.1)
theorem x_fl_out {M : xM} {k lo hi b : Nat} {v : Int32} (h : b < lo ∨ hi ≤ b) : x_fl M k lo hi v k b = M k b := if_neg (by omega)
theorem x_fl_in {M : xM} {k lo hi b : Nat} {v : Int32} (h : lo ≤ b) (h2 : b < hi) : x_fl M k lo hi v k b = v := if_pos ⟨rfl, h, h2⟩
theorem x_n9 {z : Nat} (hz : z < 2) : xn 0 (9 + z) = 24 := by
  rcases (show z = 0 ∨ z = 1 by omega) with rfl | rfl <;> rfl
theorem u_24z (z i : Nat) : (24 : Int32) * nI z + nI i = nI (24 * z + i) := by rw [show (24 : Int32) = nI 24 from rfl, pk_mul, nI_add]
theorem c_shL {z n : Nat} (hz : z < 2) (hn : n ≤ 24) (k : xM → Option (Int32 × xM)) : ∀ (fu i : Nat) (C : xM), i ≤ n → n - i < fu → fX10_sheet_L28 (nI z) (nI n) k fu C (nI i) = k (x_fl C (9 + z) i n 0) := by
  intro fu
  induction fu with
  | zero => intro i C _ h; omega
  | succ f ih =>
    intro i C hi hf
    rw [fX10_sheet_L28]
    by_cases q : i = n
    · subst q
      rw [if_pos (Int32.le_refl _), x_fl_0]
    · rw [if_neg (u_lie (by omega) (by omega)), u_c (show z < 2 ^ 31 by omega), x_n9 hz]
      simp (disch := omega) only [x_l, u_g, u_c, u_a1]
      rw [ih (i + 1) _ (by omega) (by omega), x_fl_s _ _ (by omega)]
theorem p_shL {z n : Nat} (hz : z < 2) (hn : n ≤ 24) : ∀ (fu i : Nat) (M : xM), i ≤ n → n - i < fu → fX11_sheet_L35 (nI z) (nI n) fu M (nI i) = some (nI n, x_fl M 13 (24 * z + i) (24 * z + n) 0) := by
  intro fu
  induction fu with
  | zero => intro i C _ h; omega
  | succ f ih =>
    intro i C hi hf
    rw [fX11_sheet_L35]
    by_cases q : i = n
    · subst q
      rw [if_pos (Int32.le_refl _), x_fl_0]
    · rw [if_neg (u_lie (by omega) (by omega)), u_24z]
      simp (disch := omega) only [x_l, u_g, u_c, u_a1]
      rw [ih (i + 1) _ (by omega) (by omega), show 24 * z + (i + 1) = 24 * z + i + 1 from rfl, x_fl_s _ _ (by omega)]
theorem q_sheet {C M : xM} (h : Rel C M) (a b : Int32) : q_Stp (fX10_sheet C a b) (fX11_sheet M a b) := by
  unfold fX10_sheet fX11_sheet
  rw [c_in, p_in, x_b_some, x_b_some]
  refine q_ck h Iff.rfl (fun ha => ?_)
  obtain ⟨z, hz, rfl⟩ := u_of (n := 1) ha.1 ha.2 (by decide)
  refine q_itn h (fun h24 => ?_)
  refine q_itn h (fun h0 => ?_)
  obtain ⟨n, hn, rfl⟩ := u_of (n := 24) h0 h24 (by decide)
  have e1 := c_shL (z := z) (n := n) (by omega) hn (fun (M_8 : xM) => x_g (nI z) 2 (x_l (x_up M_8 8 (nI z).toNatClampNeg (nI n)) fun M_10 => x_g (nI z) 2 (x_l (x_up M_10 7 (nI z).toNatClampNeg (0 : Int32)) fun M_12 => some (nI n, M_12)))) x_FU 0 C (Nat.zero_le _) (by rw [x_FU_eq]; omega)
  have e2 := p_shL (z := z) (n := n) (by omega) hn x_FU 0 (x_up M 14 z (nI n)) (Nat.zero_le _) (by rw [x_FU_eq]; omega)
  refine (show q_Stp (fX10_sheet_L28 (nI z) (nI n) (fun (M_8 : xM) => x_g (nI z) 2 (x_l (x_up M_8 8 (nI z).toNatClampNeg (nI n)) fun M_10 => x_g (nI z) 2 (x_l (x_up M_10 7 (nI z).toNatClampNeg (0 : Int32)) fun M_12 => some (nI n, M_12)))) x_FU C (nI 0)) _ from ?_)
  rw [e1, u_g (by omega) (by decide)]
  simp (disch := omega) only [x_l, u_g, u_c]
  refine (show q_Stp _ (fX11_sheet_L35 (nI z) (nI n) x_FU (x_up M 14 z (nI n)) (nI 0)) from ?_)
  rw [e2]
  refine q_mk rfl (Rel.sheets2 (z := z) (by omega) h (fun a b q => ?_) (fun a b q => ?_) (Or.inr ⟨n, hn, ?_, ?_, ?_, fun i hi => ?_⟩) (fun y hy hyz => ⟨?_, ?_, ?_, fun i hi => ⟨?_, ?_⟩⟩))
  · simp (disch := omega) only [x_uo, x_uj, x_us, x_fl_ne]
  · simp (disch := omega) only [x_uo, x_uj, x_us, x_fl_ne]
  · simp (disch := omega) only [x_uo, x_uj, x_us, x_fl_ne]
  · simp (disch := omega) only [x_uo, x_uj, x_us, x_fl_ne]
  · simp (disch := omega) only [x_uo, x_uj, x_us, x_fl_ne]
  · simp (disch := omega) only [x_uo, x_uj, x_us, x_fl_in]
  · simp (disch := omega) only [x_uo, x_uj, x_us, x_fl_ne]
  · simp (disch := omega) only [x_uo, x_uj, x_us, x_fl_ne]
  · simp (disch := omega) only [x_uo, x_uj, x_us, x_fl_ne]
  · simp (disch := omega) only [x_uo, x_uj, x_us, x_fl_ne]
  · simp (disch := omega) only [x_uo, x_uj, x_us, x_fl_out]
theorem q_mark {C M : xM} (h : Rel C M) (a b c : Int32) : q_Stp (fX10_mark C a b c) (fX11_mark M a b c) := by
  unfold fX10_mark fX11_mark
  rw [c_in, p_in, x_b_some, x_b_some]
  refine q_ck h Iff.rfl (fun ha => ?_)
  obtain ⟨z, hz, rfl⟩ := u_of (n := 1) ha.1 ha.2 (by decide)
  simp (disch := omega) only [u_g, u_c]
  rcases h.s1 (show z < 2 by omega) with ⟨e14, e7⟩ | ⟨n, hn, e14, e7, e8, ep⟩
  · rw [e14, e7, if_pos rfl, if_neg (by decide)]
    exact q_same h rfl rfl
  · rw [e14, e7, e8, if_pos rfl, if_neg (show ¬ nI n = (-1 : Int32) by rw [l_neg (by omega)]; exact id)]
    rw [c_in, p_in, x_b_some, x_b_some]
    refine q_ck h Iff.rfl (fun hb => ?_)
    rw [u_has (by omega)] at hb
    obtain ⟨i, hi, rfl⟩ := hb
    have e := ep i hi
    simp (disch := omega) only [x_n9 (show z < 2 by omega), u_24z, u_g, u_c, x_l, e]
    refine q_mk rfl (Rel.sheets2 (z := z) (by omega) h (fun a b q => ?_) (fun a b q => ?_) (Or.inr ⟨n, hn, ?_, ?_, ?_, fun y hy => ?_⟩) (fun y hy hyz => ⟨?_, ?_, ?_, fun i hi => ⟨?_, ?_⟩⟩))
    · simp (disch := omega) only [x_uo, x_uj, x_us]
    · simp (disch := omega) only [x_uo, x_uj, x_us]
    · simp (disch := omega) only [x_uo, x_uj, x_us]; exact e14
    · simp (disch := omega) only [x_uo, x_uj, x_us]; exact e7
    · simp (disch := omega) only [x_uo, x_uj, x_us]; exact e8
    · by_cases q : y = i
      · subst q
        simp (disch := omega) only [x_uo, x_uj, x_us]
      · have := ep y hy
        simp (disch := omega) only [x_uo, x_uj, x_us]
        exact this
    · simp (disch := omega) only [x_uo, x_uj, x_us]
    · simp (disch := omega) only [x_uo, x_uj, x_us]
    · simp (disch := omega) only [x_uo, x_uj, x_us]
    · simp (disch := omega) only [x_uo, x_uj, x_us]
    · simp (disch := omega) only [x_uo, x_uj, x_us]
