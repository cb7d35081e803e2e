/-- the pile's top place in the class -/
noncomputable def w_t (d : Nat) : Int32 := if d = 0 then -1 else nI (d - 1)
theorem w_t1 (d : Nat) : w_t d + 1 = nI d := by
  unfold w_t
  by_cases h : d = 0
  · rw [if_pos h, h]; decide
  · rw [if_neg h, u_a1, show d - 1 + 1 = d by omega]
theorem w_ts (d : Nat) : w_t (d + 1) = nI d := by
  unfold w_t
  rw [if_neg (by omega), Nat.add_sub_cancel]
theorem w_i1 (c j : Nat) : nI (952 + 241 * c) + 1 + 2 * nI j = nI (952 + 241 * c + 1 + 2 * j) := by
  rw [u_a1, show (2 : Int32) = nI 2 from rfl, pk_mul, nI_add]
theorem w_i2 (c j : Nat) : nI (952 + 241 * c) + 2 + 2 * nI j = nI (952 + 241 * c + 1 + (2 * j + 1)) := by
  rw [u_a2, show (2 : Int32) = nI 2 from rfl, pk_mul, nI_add]
  congr 1
  omega
theorem w_nn (x : Int32) : - - x = x := Int32.neg_neg
theorem w_l0 {n : Nat} (h1 : 97 ≤ n) (h2 : n ≤ 122) : (0 ≤ -nI n) = False := by
  have : ∀ k, k < 26 → ¬ (0 : Int32) ≤ -nI (97 + k) := by decide
  have := this (n - 97) (by omega)
  rw [show 97 + (n - 97) = n by omega] at this
  exact eq_false this
theorem w_l1 {n : Nat} (h1 : 97 ≤ n) (h2 : n ≤ 122) : (-nI n < 0) = True := by
  have : ∀ k, k < 26 → -nI (97 + k) < (0 : Int32) := by decide
  have := this (n - 97) (by omega)
  rw [show 97 + (n - 97) = n by omega] at this
  exact eq_true this
theorem w_l2 {n : Nat} (h1 : 97 ≤ n) : nI n - 97 = nI (n - 97) := by
  rw [show n = n - 97 + 97 by omega, ← nI_add, Nat.add_sub_cancel]
  exact Int32.add_sub_cancel _ _
theorem w_isL {M : xM} {n : Nat} (h1 : 97 ≤ n) (h2 : n ≤ 122) : fX9_isLetter M (nI n) = some (1, M) := by
  unfold fX9_isLetter x_l
  have a1 : ¬ nI n < (97 : Int32) := (by rw [l_ltn (by omega) (by omega)]; omega : ¬ nI n < nI 97)
  have a2 : ¬ (122 : Int32) < nI n := (by rw [l_ltn (by omega) (by omega)]; omega : ¬ nI 122 < nI n)
  simp only [a1, a2, if_false]
theorem w_isN {M : xM} {x : Int32} (h : x < 97 ∨ 122 < x) : fX9_isLetter M x = some (0, M) := by
  unfold fX9_isLetter x_l
  by_cases q : x < 97
  · simp only [q, if_true]
  · simp only [q, if_false, h.resolve_left q, if_true]
theorem w_tl {d : Nat} (h : d < 120) : w_t d < (119 : Int32) := by
  unfold w_t
  by_cases q : d = 0
  · rw [if_pos q]; decide
  · rw [if_neg q]
    exact (by rw [l_ltn (by omega) (by omega)]; omega : nI (d - 1) < nI 119)
theorem w_c1 {C : xM} {c i m d v fu : Nat} {kC : xM → Int32 → Option (Int32 × xM)} (hc : c < 3) (h27 : C 27 c = nI m) (hi : i < m) (hm : m ≤ 120) (hd : d < 120) (h26 : C 26 i = nI v) (hv : v ≤ 99999) : fX7_workOut_L24 (nI c) kC (fu + 1) C (w_t d) (nI i) = fX7_workOut_L24 (nI c) kC fu (x_up C 30 d (nI v)) (w_t (d + 1)) (nI (i + 1)) := by
  have a1 : (0 : Int32) ≤ nI v := (by rw [l_len (by omega) (by omega)]; omega : nI 0 ≤ nI v)
  have a2 : ¬ nI v < (0 : Int32) := Int32.not_lt.2 a1
  rw [fX7_workOut_L24, u_g (by omega) (by omega), u_c (by omega), h27, if_neg (by rw [l_len (by omega) (by omega)]; omega), u_g (by omega) (by omega), u_c (by omega), h26]
  refine Eq.trans (if_pos a1) ?_
  refine Eq.trans (if_pos (w_tl hd)) ?_
  refine Eq.trans (if_neg a2) ?_
  show x_g (w_t d + 1) 120 (fX7_workOut_L24 (nI c) kC fu (x_up C 30 (w_t d + 1).toNatClampNeg (nI v)) (w_t d + 1) (nI i + 1)) = _
  rw [w_t1, u_g (by omega) (by omega), u_c (by omega), u_a1, w_ts]
theorem w_c2 {C : xM} {c i m d v fu : Nat} {kC : xM → Int32 → Option (Int32 × xM)} (hc : c < 3) (h27 : C 27 c = nI m) (hi : i < m) (hm : m ≤ 120) (hd : d < 120) (h26 : C 26 i = -nI v) (v1 : 97 ≤ v) (v2 : v ≤ 122) : fX7_workOut_L24 (nI c) kC (fu + 1) C (w_t d) (nI i) = fX7_workOut_L24 (nI c) kC fu (x_up C 30 d (C 29 (v - 97))) (w_t (d + 1)) (nI (i + 1)) := by
  have a1 : ¬ (0 : Int32) ≤ -nI v := of_eq_false (w_l0 v1 v2)
  have a2 : -nI v < (0 : Int32) := of_eq_true (w_l1 v1 v2)
  rw [fX7_workOut_L24, u_g (by omega) (by omega), u_c (by omega), h27, if_neg (by rw [l_len (by omega) (by omega)]; omega), u_g (by omega) (by omega), u_c (by omega), h26]
  refine Eq.trans (if_neg a1) ?_
  rw [w_nn, w_isL v1 v2]
  refine Eq.trans (if_pos (w_tl hd)) ?_
  refine Eq.trans (if_pos a2) ?_
  show x_g (nI v - 97) 26 (x_g (w_t d + 1) 120 (fX7_workOut_L24 (nI c) kC fu (x_up C 30 (w_t d + 1).toNatClampNeg (C 29 (nI v - 97).toNatClampNeg)) (w_t d + 1) (nI i + 1))) = _
  rw [w_l2 v1, u_g (by omega) (by omega), w_t1, u_g (by omega) (by omega), u_c (by omega), u_c (by omega), u_a1, w_ts]
