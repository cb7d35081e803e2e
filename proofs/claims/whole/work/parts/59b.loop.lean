theorem w_c3 {C : xM} {c i m d fu : Nat} {kC : xM → Int32 → Option (Int32 × xM)} (hc : c < 3) (h27 : C 27 c = nI m) (hi : i < m) (hm : m ≤ 120) (hd : d < 120) (h26 : C 26 i = -33) : fX7_workOut_L24 (nI c) kC (fu + 1) C (w_t (d + 1)) (nI i) = fX7_workOut_L24 (nI c) kC fu (x_up C 30 d (if C 30 d = 0 then 1 else 0)) (w_t (d + 1)) (nI (i + 1)) := by
  have a2 : ¬ nI d < (0 : Int32) := Int32.not_lt.2 (by rw [l_len (by omega) (by omega)]; omega : nI 0 ≤ nI d)
  rw [w_ts, fX7_workOut_L24, u_g (by omega) (by omega), u_c (by omega), h27, if_neg (by rw [l_len (by omega) (by omega)]; omega), u_g (by omega) (by omega), u_c (by omega), h26]
  refine Eq.trans (if_neg a2) ?_
  refine Eq.trans (u_g (by omega) (by omega)) ?_
  by_cases q : C 30 d = 0
  · rw [if_pos q]
    refine Eq.trans (if_pos (by rw [u_c (by omega)]; exact q)) ?_
    show x_g (nI d) 120 (fX7_workOut_L24 (nI c) kC fu (x_up C 30 (nI d).toNatClampNeg 1) (nI d) (nI i + 1)) = _
    rw [u_g (by omega) (by omega), u_c (by omega), u_a1]
  · rw [if_neg q]
    refine Eq.trans (if_neg (by rw [u_c (by omega)]; exact q)) ?_
    show x_g (nI d) 120 (fX7_workOut_L24 (nI c) kC fu (x_up C 30 (nI d).toNatClampNeg 0) (nI d) (nI i + 1)) = _
    rw [u_g (by omega) (by omega), u_c (by omega), u_a1]
theorem w_c4 {C : xM} {c i m d fu : Nat} {x r : Int32} {kC : xM → Int32 → Option (Int32 × xM)} (hc : c < 3) (h27 : C 27 c = nI m) (hi : i < m) (hm : m ≤ 120) (hd : d + 1 < 120) (h26 : C 26 i = x) (x0 : ¬ 0 ≤ x) (x1 : -x < 97 ∨ 122 < -x) (x2 : ¬ x = -33) (hj : fX7_join C (-x) (C 30 d) (C 30 (d + 1)) = some (r, C)) : fX7_workOut_L24 (nI c) kC (fu + 1) C (w_t (d + 2)) (nI i) = fX7_workOut_L24 (nI c) kC fu (x_up C 30 d r) (w_t (d + 1)) (nI (i + 1)) := by
  have a2 : ¬ nI (d + 1) < (1 : Int32) := Int32.not_lt.2 (by rw [l_len (by omega) (by omega)]; omega : nI 1 ≤ nI (d + 1))
  have a3 : nI (d + 1) + -1 = nI d := by rw [← u_a1, Int32.add_assoc]; exact Int32.add_zero _
  rw [w_ts, w_ts, fX7_workOut_L24, u_g (by omega) (by omega), u_c (by omega), h27, if_neg (by rw [l_len (by omega) (by omega)]; omega), u_g (by omega) (by omega), u_c (by omega), h26]
  refine Eq.trans (if_neg x0) ?_
  rw [w_isN x1]
  refine Eq.trans (if_neg x2) ?_
  refine Eq.trans (if_neg a2) ?_
  rw [a3]
  refine Eq.trans (u_g (m := d) (by omega) (by omega)) ?_
  rw [u_a1 d, u_a1 i, u_g (by omega) (by omega), u_c (by omega), u_c (by omega), hj]
  refine Eq.trans (u_g (m := d) (by omega) (by omega)) ?_
  rfl
theorem w_m1 {M : xM} {c j n d fu : Nat} {v : Int32} {kM : xM → Option (Int32 × xM)} (hc : c < 3) (h1 : M 1 (952 + 241 * c) = nI n) (hj : j < n) (hn : n ≤ 120) (hd : d < 120) (hw : M 1 (952 + 241 * c + 1 + 2 * j) = 1) (hv : M 1 (952 + 241 * c + 1 + (2 * j + 1)) = v) : fX11_worked_L15 (nI (952 + 241 * c)) kM (fu + 1) M (nI d) (nI j) = fX11_worked_L15 (nI (952 + 241 * c)) kM fu (x_up M 6 d v) (nI (d + 1)) (nI (j + 1)) := by
  rw [fX11_worked_L15, u_g (by omega) (by omega), u_c (by omega), h1, if_neg (by rw [l_len (by omega) (by omega)]; omega), w_i1, w_i2, u_g (by omega) (by omega), u_c (by omega), u_c (by omega), hw, hv]
  refine Eq.trans (u_g (m := 952 + 241 * c + 1 + (2 * j + 1)) (by omega) (by omega)) ?_
  show x_g (nI d) 130 (fX11_worked_L15 (nI (952 + 241 * c)) kM fu (x_up M 6 (nI d).toNatClampNeg v) (nI d + 1) (nI j + 1)) = _
  rw [u_g (by omega) (by omega), u_c (by omega), u_a1, u_a1]
theorem w_m2 {M : xM} {c j n d fu l : Nat} {kM : xM → Option (Int32 × xM)} (hc : c < 3) (h1 : M 1 (952 + 241 * c) = nI n) (hj : j < n) (hn : n ≤ 120) (hd : d < 120) (hl : l ≤ 122) (hw : M 1 (952 + 241 * c + 1 + 2 * j) = 2) (hv : M 1 (952 + 241 * c + 1 + (2 * j + 1)) = nI l) : fX11_worked_L15 (nI (952 + 241 * c)) kM (fu + 1) M (nI d) (nI j) = fX11_worked_L15 (nI (952 + 241 * c)) kM fu (x_up M 6 d (M 7 l)) (nI (d + 1)) (nI (j + 1)) := by
  rw [fX11_worked_L15, u_g (by omega) (by omega), u_c (by omega), h1, if_neg (by rw [l_len (by omega) (by omega)]; omega), w_i1, w_i2, u_g (by omega) (by omega), u_c (by omega), u_c (by omega), hw, hv]
  refine Eq.trans (u_g (m := 952 + 241 * c + 1 + (2 * j + 1)) (by omega) (by omega)) ?_
  show x_g (nI l) 128 (x_g (nI d) 130 (fX11_worked_L15 (nI (952 + 241 * c)) kM fu (x_up M 6 (nI d).toNatClampNeg (M 7 (nI l).toNatClampNeg)) (nI d + 1) (nI j + 1))) = _
  rw [u_g (by omega) (by omega), u_g (by omega) (by omega), u_c (by omega), u_c (by omega), u_a1, u_a1]
theorem w_m3 {M : xM} {c j n d fu : Nat} {kM : xM → Option (Int32 × xM)} (hc : c < 3) (h1 : M 1 (952 + 241 * c) = nI n) (hj : j < n) (hn : n ≤ 120) (hd : d < 120) (hw : M 1 (952 + 241 * c + 1 + 2 * j) = 3) : fX11_worked_L15 (nI (952 + 241 * c)) kM (fu + 1) M (nI (d + 1)) (nI j) = fX11_worked_L15 (nI (952 + 241 * c)) kM fu (x_up M 6 d (if M 6 d = 0 then 1 else 0)) (nI (d + 1)) (nI (j + 1)) := by
  rw [fX11_worked_L15, u_g (by omega) (by omega), u_c (by omega), h1, if_neg (by rw [l_len (by omega) (by omega)]; omega), w_i1, w_i2, u_g (by omega) (by omega), u_c (by omega), u_c (by omega), hw, u_m1]
  refine Eq.trans (u_g (m := 952 + 241 * c + 1 + (2 * j + 1)) (by omega) (by omega)) ?_
  refine Eq.trans (u_g (by omega) (by omega)) ?_
  by_cases q : M 6 d = 0
  · rw [if_pos q]
    refine Eq.trans (if_pos (by rw [u_c (by omega)]; exact q)) ?_
    show x_g (nI d) 130 (fX11_worked_L15 (nI (952 + 241 * c)) kM fu (x_up M 6 (nI d).toNatClampNeg 1) (nI (d + 1)) (nI j + 1)) = _
    rw [u_g (by omega) (by omega), u_c (by omega), u_a1]
  · rw [if_neg q]
    refine Eq.trans (if_neg (by rw [u_c (by omega)]; exact q)) ?_
    show x_g (nI d) 130 (fX11_worked_L15 (nI (952 + 241 * c)) kM fu (x_up M 6 (nI d).toNatClampNeg 0) (nI (d + 1)) (nI j + 1)) = _
    rw [u_g (by omega) (by omega), u_c (by omega), u_a1]
theorem w_m4 {M : xM} {c j n d fu : Nat} {w r : Int32} {kM : xM → Option (Int32 × xM)} (hc : c < 3) (h1 : M 1 (952 + 241 * c) = nI n) (hj : j < n) (hn : n ≤ 120) (hd : d + 1 < 120) (hw : M 1 (952 + 241 * c + 1 + 2 * j) = w) (w1 : ¬ w = 1) (w2 : ¬ w = 2) (w3 : ¬ w = 3) (hb : fX11_both M w (M 6 d) (M 6 (d + 1)) = some (r, M)) : fX11_worked_L15 (nI (952 + 241 * c)) kM (fu + 1) M (nI (d + 2)) (nI j) = fX11_worked_L15 (nI (952 + 241 * c)) kM fu (x_up M 6 d r) (nI (d + 1)) (nI (j + 1)) := by
  have a3 : nI (d + 2) + -1 = nI (d + 1) := by rw [← u_a1 (d + 1), Int32.add_assoc]; exact Int32.add_zero _
  rw [fX11_worked_L15, u_g (by omega) (by omega), u_c (by omega), h1, if_neg (by rw [l_len (by omega) (by omega)]; omega), w_i1, w_i2, u_g (by omega) (by omega), u_c (by omega), u_c (by omega), hw]
  refine Eq.trans (u_g (m := 952 + 241 * c + 1 + (2 * j + 1)) (by omega) (by omega)) ?_
  refine Eq.trans (if_neg w1) ?_
  refine Eq.trans (if_neg w2) ?_
  refine Eq.trans (if_neg w3) ?_
  rw [a3]
  show x_g (nI (d + 1) - 1) 130 _ = _
  rw [u_m1, u_a1 j, u_g (by omega) (by omega), u_g (by omega) (by omega), u_c (by omega), u_c (by omega), hb]
  refine Eq.trans (u_g (m := d) (by omega) (by omega)) ?_
  rfl
