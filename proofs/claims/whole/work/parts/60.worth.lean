/-! the law worked out on both sides -/
theorem w_core {L : Nat → Prop} {C M : xM} {c e n : Nat} {f : Nat → Int32} (hc : c < 3) (hr : r_row L (C 26) e f n) (hen : e + n ≤ 120) (c27 : C 27 c = nI (e + n)) (m1 : M 1 (952 + 241 * c) = nI n) (mf : ∀ i, i < 2 * n → M 1 (952 + 241 * c + 1 + i) = f i) (hl : ∀ l, L l → 97 ≤ l → l ≤ 122 → C 29 (l - 97) = M 7 l) (hb : (c = 0 ∧ e = 0) ∨ (0 < c ∧ C 27 (c - 1) = nI e)) : ∃ r C' M', fX7_workOut C (nI c) = some (r, C') ∧ fX11_worked M (nI c) = some (r, M') ∧ (∀ a b, a ≠ 30 → C' a b = C a b) ∧ (∀ a b, a ≠ 6 → M' a b = M a b) := by
  obtain ⟨C', M', g1, g2, g3, g4, g5⟩ := w_loop hr hen hc (fun (M_6 : xM) (x3_4 : Int32) => if x3_4 < 0 then (some ((0 : Int32), M_6)) else (x_g x3_4 120 (some ((M_6 30 x3_4.toNatClampNeg), M_6)))) (fun (M_3 : xM) => some ((M_3 6 0), M_3)) x_FU 0 0 C M (by rw [x_FU_eq]; omega) (by omega) rfl c27 (fun i hi => rfl) m1 mf hl (fun i hi => by omega)
  refine ⟨C' 30 0, C', M', ?_, ?_, g3, g4⟩
  · have e0 : w_t 0 = -1 := if_pos rfl
    rw [e0, Nat.add_zero] at g1
    unfold fX7_workOut
    rcases hb with ⟨rfl, rfl⟩ | ⟨h0, h1⟩
    · refine (Eq.trans ?_ g1).trans ?_
      · rfl
      · rfl
    · have h2 : ¬ nI c = (0 : Int32) := by rw [kn0_eq (by omega)]; omega
      have h3 : nI c - 1 = nI (c - 1) := by
        obtain ⟨c', rfl⟩ : ∃ c', c = c' + 1 := ⟨c - 1, by omega⟩
        exact u_m1 c'
      refine (Eq.trans ?_ g1).trans ?_
      · refine Eq.trans (if_neg h2) ?_
        rw [h3, u_g (by omega) (by omega), u_c (by omega), h1]
        rfl
      · rfl
  · unfold fX11_worked
    rw [show (952 : Int32) + 241 * nI c = nI (952 + 241 * c) by rw [show (241 : Int32) = nI 241 from rfl, pk_mul, show (952 : Int32) = nI 952 from rfl, nI_add]]
    refine (Eq.trans ?_ g2).trans ?_
    · rfl
    · show some (M' 6 0, M') = _
      rw [g5]
def r_lc (c l : Nat) : Prop := (c = 0 ∧ r_l0 l) ∨ (c = 1 ∧ r_l1 l) ∨ (c = 2 ∧ r_l2 l)
theorem w_out {C M : xM} {c : Nat} (hc : c < 3) (hr : r_rows (C 26) (C 27) (fun k => M 1 (952 + k))) (hl : ∀ l, r_lc c l → C 29 (l - 97) = M 7 l) : ∃ r C' M', fX7_workOut C (nI c) = some (r, C') ∧ fX11_worked M (nI c) = some (r, M') ∧ (∀ a b, a ≠ 30 → C' a b = C a b) ∧ (∀ a b, a ≠ 6 → M' a b = M a b) := by
  obtain ⟨n0, n1, n2, hn, w0, w1, w2, e0, e1, e2, r0, r1, r2⟩ := hr
  rcases (show c = 0 ∨ c = 1 ∨ c = 2 by omega) with rfl | rfl | rfl
  · exact w_core (L := r_l0) (by omega) r0 (by omega) (by rw [e0, Nat.zero_add]) w0 (fun i hi => by show M 1 _ = M 1 _; congr 1; omega) (fun l a _ _ => hl l (Or.inl ⟨rfl, a⟩)) (Or.inl ⟨rfl, rfl⟩)
  · exact w_core (L := r_l1) (by omega) r1 (by omega) e1 w1 (fun i hi => by show M 1 _ = M 1 _; congr 1; omega) (fun l a _ _ => hl l (Or.inr (Or.inl ⟨rfl, a⟩))) (Or.inr ⟨by omega, e0⟩)
  · exact w_core (L := r_l2) (by omega) r2 (by omega) e2 w2 (fun i hi => by show M 1 _ = M 1 _; congr 1; omega) (fun l a _ _ => hl l (Or.inr (Or.inr ⟨rfl, a⟩))) (Or.inr ⟨by omega, e1⟩)
theorem c_set (M : xM) (v : Nat) (h1 : 97 ≤ v) (h2 : v ≤ 122) (a : Int32) : fX7_set M (nI v) a = some (x_up M 29 (v - 97) a) := by
  unfold fX7_set
  rw [w_isL h1 h2]
  show x_g (nI v - 97) 26 _ = _
  rw [w_l2 h1, u_g (by omega) (by omega), u_c (by omega)]
  rfl
theorem c_sg (M : xM) (a : Int32) : fX7_set M 103 a = some (x_up M 29 6 a) := c_set M 103 (by decide) (by decide) a
theorem c_sp (M : xM) (a : Int32) : fX7_set M 112 a = some (x_up M 29 15 a) := c_set M 112 (by decide) (by decide) a
theorem c_sa (M : xM) (a : Int32) : fX7_set M 97 a = some (x_up M 29 0 a) := c_set M 97 (by decide) (by decide) a
theorem c_sk (M : xM) (a : Int32) : fX7_set M 107 a = some (x_up M 29 10 a) := c_set M 107 (by decide) (by decide) a
theorem c_sy (M : xM) (a : Int32) : fX7_set M 121 a = some (x_up M 29 24 a) := c_set M 121 (by decide) (by decide) a
theorem c_si (M : xM) (a : Int32) : fX7_set M 105 a = some (x_up M 29 8 a) := c_set M 105 (by decide) (by decide) a
theorem c_sn (M : xM) (a : Int32) : fX7_set M 110 a = some (x_up M 29 13 a) := c_set M 110 (by decide) (by decide) a
theorem c_sw (M : xM) (a : Int32) : fX7_set M 119 a = some (x_up M 29 22 a) := c_set M 119 (by decide) (by decide) a
theorem c_sd (M : xM) (a : Int32) : fX7_set M 100 a = some (x_up M 29 3 a) := c_set M 100 (by decide) (by decide) a
theorem c_ss (M : xM) (a : Int32) : fX7_set M 115 a = some (x_up M 29 18 a) := c_set M 115 (by decide) (by decide) a
theorem c_su (M : xM) (a : Int32) : fX7_set M 117 a = some (x_up M 29 20 a) := c_set M 117 (by decide) (by decide) a
theorem u_mx (r l : Int32) : (if r < l then l else r) = (if r ≤ l then l else r) := by
  by_cases h : r < l
  · rw [if_pos h, if_pos (Int32.le_of_lt h)]
  · rw [if_neg h]
    by_cases h2 : r ≤ l
    · rw [if_pos h2]; exact Int32.le_antisymm h2 (Int32.not_lt.mp h)
    · rw [if_neg h2]
theorem u_mn (x m : Int32) : (if m < x then m else x) = (if m ≤ x then m else x) := by
  by_cases h : m < x
  · rw [if_pos h, if_pos (Int32.le_of_lt h)]
  · rw [if_neg h]
    by_cases h2 : m ≤ x
    · rw [if_pos h2]; exact Int32.le_antisymm (Int32.not_lt.mp h) h2
    · rw [if_neg h2]
def sp_bd (r l m : Int32) : Int32 := if m ≤ (if r ≤ l then l else r) then m else (if r ≤ l then l else r)
theorem c_bd (C : xM) (r l m : Int32) : fX10_bounded C r l m = some (sp_bd r l m, C) := by
  unfold fX10_bounded sp_bd
  rw [u_mx, u_mn]
theorem b_bd (r : Int32) {l m : Nat} (hl : l < 2 ^ 31) (hm : m < 2 ^ 31) : ∃ v, v ≤ m ∧ sp_bd r (nI l) (nI m) = nI v := by
  unfold sp_bd
  by_cases h : nI m ≤ (if r ≤ nI l then nI l else r)
  · rw [if_pos h]
    exact ⟨m, Nat.le_refl _, rfl⟩
  · rw [if_neg h]
    have h0 : 0 ≤ (if r ≤ nI l then nI l else r) := by
      by_cases q : r ≤ nI l
      · rw [if_pos q]; exact nI_pos' hl
      · rw [if_neg q]; exact Int32.le_trans (nI_pos' hl) (Int32.le_of_lt (Int32.not_le.mp q))
    obtain ⟨j, hj, e⟩ := u_of h0 (Int32.le_of_lt (Int32.not_le.mp h)) hm
    exact ⟨j, hj, e⟩
theorem c_yth {C : xM} {s : Nat → Int32} {nP i : Nat} (hi : i < nP) (hp : nP ≤ 12) (gP : r_P 0 C s nP) (iP : i_P s nP) : fX8_youth C (nI i) = some ((if 1 ≤ s (30 + 3 * i) ∧ s (30 + 3 * i) ≤ 2 then 1 else 0), C) := by
  obtain ⟨r, r1, r2, r3⟩ := c_youth hi hp gP iP
  rw [r2]
  unfold sp_yg at r3
  by_cases q : 1 ≤ s (30 + 3 * i) ∧ s (30 + 3 * i) ≤ 2
  · rw [if_pos q, r3.mpr q]
  · rw [if_neg q]
    rcases r1 with rfl | rfl
    · rfl
    · exact absurd (r3.mp rfl) q
theorem u_01 (c : Prop) [Decidable c] : (if (if c then 1 else 0 : Int32) = 0 then (0 : Int32) else 1) = if c then 1 else 0 := by
  by_cases h : c
  · rw [if_pos h]; rfl
  · rw [if_neg h]; rfl
theorem u_kd {k : Nat} (hk : k ≤ 3) : (if (2 : Int32) = 0 ∨ 2 = nI k ∨ ((2 : Int32) = 2 ∧ nI k = 3) then 1 else 0 : Int32) = if nI k < 2 then 0 else 1 := by
  rcases (show k = 0 ∨ k = 1 ∨ k = 2 ∨ k = 3 by omega) with rfl | rfl | rfl | rfl <;> decide
theorem u_st {k : Nat} (hk : k ≤ 3) : (if (2 : Int32) = 0 ∨ 2 = nI k ∨ ((2 : Int32) = 1 ∧ nI k = 2) then 1 else 0 : Int32) = if nI k = 2 then 1 else 0 := by
  rcases (show k = 0 ∨ k = 1 ∨ k = 2 ∨ k = 3 by omega) with rfl | rfl | rfl | rfl <;> decide
