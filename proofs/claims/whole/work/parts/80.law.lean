theorem c_Bt {C : xM} {n a f : Nat} {i : Int32} (h1 : C 11 1 = nI n) (h2 : C 11 2 = nI a) (hn : n ≤ 120) (ha : a < n) (hg : fX9_isGlued C = some (0, C)) : c_B f C i = x_b (fX6_takes C) fun v N => if v = 0 then (K49 N) else (fX6_findFault_L6 K63 K63 K49 f N (i + 1)) := by
  unfold c_B
  rw [c_end h1 h2 hn (by omega), x_b_some, if_neg (show ¬ a = n by omega), if_pos rfl, hg, x_b_some, if_pos rfl]
theorem p_L19 {M : xM} {k : xM → Option xM} {fu : Nat} (h : M 0 10 = 0) : fX11_expression_L19 k (fu + 1) M 1 1 = x_b (fX11_begins M) fun v N => fX11_expression_L19 k fu N v 1 := by
  rw [fX11_expression_L19, if_neg (by decide), if_pos h, if_neg (by decide)]
/-- no part begins here -/
theorem p_begB {M : xM} {n a b : Nat} {w : Nat → Nat} (s : Nat) (hs3 : s ≤ 3) (h33 : fX11_isSign M 33 = some (0, M)) (h40 : fX11_isSign M 40 = some (0, M)) (h5 : M 0 5 = nI a) (h6 : M 0 6 = nI b) (h8 : M 0 8 = nI s) (hab : a ≤ b) (hb : b ≤ 120) (hd : s = 2 → 5 < b - a) (hl : s = 1 → b - a = 1 → fX11_isName M (M 3 a) = some (0, M)) : fX11_begins M = x_v (fX11_wrong M) fun N => some ((0 : Int32), N) := by
  unfold fX11_begins
  have hsz : nI b - nI a = nI (b - a) := pk_sub hab
  have l5 : ((5 : Int32) < nI (b - a)) = (5 < b - a) := kn5_tl (by omega)
  have l1 : (nI (b - a) = (1 : Int32)) = (b - a = 1) := kn1_eq (by omega)
  have s2 : (nI s = (2 : Int32)) = (s = 2) := kn2_eq (by omega)
  have s1 : (nI s = (1 : Int32)) = (s = 1) := kn1_eq (by omega)
  simp only [h33, h40, x_b_some, x_lb, h5, h6, h8, hsz, l5, l1, s2, s1, if_true]
  by_cases q2 : s = 2
  · rw [if_pos q2, if_pos (hd q2), if_neg (show ¬ s = 1 by omega)]
  · rw [if_neg q2]
    by_cases q1 : s = 1
    · rw [if_pos q1]
      by_cases q3 : b - a = 1
      · rw [if_pos q3, u_g (by omega) (by omega), u_c (by omega), hl q1 q3, x_b_some, if_pos rfl]
      · rw [if_neg q3]
    · rw [if_neg q1]
theorem p_begN {M : xM} {n a b : Nat} {w : Nat → Nat} (h33 : fX11_isSign M 33 = some (0, M)) (h40 : fX11_isSign M 40 = some (0, M)) (h5 : M 0 5 = nI a) (h6 : M 0 6 = nI b) (h8 : M 0 8 = nI 2) (hab : a ≤ b) (hn : n ≤ 120) (hb : b ≤ n) (hd : b - a ≤ 5) (ht : ∀ i, i < n → M 3 i = nI (w i)) (hdg : ∀ i, a ≤ i → i < b → 48 ≤ w i ∧ w i ≤ 57) : fX11_begins M = x_v (fX11_emit M 1 (nI (t_nm w a (b - a)))) fun N => x_v (fX11_next (x_up N 0 13 (N 0 13 + 1))) fun N2 => x_v (fX11_parted N2) fun N3 => some ((0 : Int32), N3) := by
  unfold fX11_begins
  have hsz : nI b - nI a = nI (b - a) := pk_sub hab
  have l5 : ((5 : Int32) < nI (b - a)) = (5 < b - a) := kn5_tl (by omega)
  simp only [h33, h40, x_b_some, x_lb, h5, h6, h8, hsz, l5, if_true]
  rw [if_pos (show nI 2 = (2 : Int32) from rfl), if_neg (show ¬ 5 < b - a by omega)]
  exact p_num (w := w) (n := n) (a := a) (b := b) _ hn hb h6 ht hdg x_FU 0 (by omega) (by rw [x_FU_eq]; omega)
theorem p_begL {M : xM} {a b : Nat} (h33 : fX11_isSign M 33 = some (0, M)) (h40 : fX11_isSign M 40 = some (0, M)) (h5 : M 0 5 = nI a) (h6 : M 0 6 = nI b) (h8 : M 0 8 = nI 1) (hab : b = a + 1) (hb : b ≤ 120) (hl : fX11_isName M (M 3 a) = some (1, M)) : fX11_begins M = x_v (fX11_emit M 2 (M 3 a)) fun N => x_v (fX11_next (x_up N 0 13 (N 0 13 + 1))) fun N2 => x_v (fX11_parted N2) fun N3 => some ((0 : Int32), N3) := by
  unfold fX11_begins
  have hsz : nI b - nI a = nI (b - a) := pk_sub (by omega)
  have l1 : (nI (b - a) = (1 : Int32)) = (b - a = 1) := kn1_eq (by omega)
  simp only [h33, h40, x_b_some, x_lb, h5, h6, h8, hsz, l1, if_true]
  rw [if_neg (show ¬ nI 1 = (2 : Int32) by decide), if_pos (show nI 1 = (1 : Int32) from rfl), if_pos (show b - a = 1 by omega), u_g (by omega) (by omega), u_c (by omega), hl, x_b_some, if_neg (by decide : ¬ (1 : Int32) = 0), h5, u_g (by omega) (by omega), u_c (by omega)]
theorem p_begX {M : xM} {h nt pr : Nat} (h33 : fX11_isSign M 33 = some (1, M)) (h16 : M 0 16 = nI h) (hh : h < 130) (h18 : M 0 18 = nI nt) (h17 : M 0 17 = nI pr) (hn : nt ≤ 8) : fX11_begins M = if nt = 8 then (x_v (fX11_wrong M) fun N => some ((0 : Int32), N)) else x_v (fX11_next (x_up (x_up (x_up (x_up M 5 h 3) 0 16 (nI (h + 1))) 0 18 (nI (nt + 1))) 0 17 (nI pr))) fun N => some ((1 : Int32), N) := by
  unfold fX11_begins
  have l8 : (nI nt = (8 : Int32)) = (nt = 8) := kn8_eq (by omega)
  have h10 : ((1 : Int32) = 0) = False := eq_false (by decide)
  rw [h33, x_b_some, x_lb, if_neg (by decide : ¬ (1 : Int32) = 0)]
  show x_b (fX11_isSign M 33) _ = _
  rw [h33, x_b_some, x_lb, if_neg (by decide : ¬ (1 : Int32) = 0)]
  simp (disch := omega) only [x_lb, h10, if_false, h18, l8, h16, u_g, u_c, x_uo, x_uj, x_us, u_a1, h17, Int32.add_zero]
theorem p_begP {M : xM} {h nt pr : Nat} (h33 : fX11_isSign M 33 = some (0, M)) (h40 : fX11_isSign M 40 = some (1, M)) (h16 : M 0 16 = nI h) (hh : h < 130) (h18 : M 0 18 = nI nt) (h17 : M 0 17 = nI pr) (hn : pr ≤ 8) : fX11_begins M = if pr = 8 then (x_v (fX11_wrong M) fun N => some ((0 : Int32), N)) else x_v (fX11_next (x_up (x_up (x_up (x_up M 5 h 1) 0 16 (nI (h + 1))) 0 18 (nI nt)) 0 17 (nI (pr + 1)))) fun N => some ((1 : Int32), N) := by
  unfold fX11_begins
  have l8 : (nI pr = (8 : Int32)) = (pr = 8) := kn8_eq (by omega)
  have h10 : ((1 : Int32) = 0) = False := eq_false (by decide)
  rw [h33, x_b_some, x_lb, if_pos rfl, h40, x_b_some, if_neg (by decide : ¬ (1 : Int32) = 0)]
  show x_b (fX11_isSign M 33) _ = _
  rw [h33, x_b_some, x_lb, if_pos rfl]
  simp (disch := omega) only [x_lb, h10, if_false, if_true, h18, l8, h16, u_g, u_c, x_uo, x_uj, x_us, u_a1, h17, Int32.add_zero]
theorem c_takesW {C : xM} {n a : Nat} {w : Nat → Nat} (h37 : C 3 7 = 1) (h1 : C 11 1 = nI n) (h2 : C 11 2 = nI a) (hn : n ≤ 120) (ha : a < n) (hb : ∀ i, i < n → C 14 i = nI (w i)) : fX6_takes C = x_b (fX6_takesPart C (nI (w a))) fun v N => x_z v (some (v, N)) := by
  unfold fX6_takes
  rw [h37, if_neg (by decide), c_first h1 h2 hn ha hb, x_b_some]
theorem c_numOrName {C : xM} {n a b c : Nat} {w : Nat → Nat} (hn : n ≤ 120) (hw : ∀ i, w i ≤ 255) (hc : c < 3) (ha : a < n) (hab : a < b) (hbn : b ≤ n) (h2 : C 11 2 = nI a) (h3 : C 11 3 = nI b) (h6 : C 3 6 = nI c) (ht : ∀ i, i < n → C 14 i = nI (w i)) (hdg : t_so (w a) = 2 → ∀ i, a ≤ i → i < b → 48 ≤ w i ∧ w i ≤ 57) :
    fX6_takesNumberOrName C (nI (w a)) = if t_so (w a) = 2 ∧ b - a ≤ 5 then (x_v (fX3_write C (nI (t_nm w a (b - a)))) fun N => x_v (fX6_endPart (x_up N 12 3 (N 12 3 + 1))) fun N2 => some ((1 : Int32), N2)) else if b - a = 1 ∧ t_nam c (w a) = true then (x_v (fX3_write C (-(nI (w a)))) fun N => x_v (fX6_endPart (x_up N 12 3 (N 12 3 + 1))) fun N2 => some ((1 : Int32), N2)) else some (0, C) := by
  unfold fX6_takesNumberOrName
  have hsz : nI b - nI a = nI (b - a) := pk_sub (by omega)
  have l5 : ((5 : Int32) < nI (b - a)) = (5 < b - a) := kn5_tl (by omega)
  have l1 : (nI (b - a) = (1 : Int32)) = (b - a = 1) := kn1_eq (by omega)
  have h255 := hw a
  have nm := c_nam c hc (w a) (by omega)
  have num : (t_so (w a) = 2) → fX9_number C = some (nI (t_nm w a (b - a)), C) := fun z => by
    unfold fX9_number
    rw [h2, x_lb]
    exact c_num hn hbn h3 ht (hdg z) x_FU 0 (by omega) (by rw [x_FU_eq]; omega)
  simp only [h2, h3, hsz, x_lb, c_isD C h255, x_b_some, u_if0, l5, l1, h6]
  simp only [← t_dig]
  by_cases q : t_so (w a) = 2
  · by_cases q5 : b - a ≤ 5
    · rw [if_neg (not_not_intro q), if_neg (show ¬ 5 < b - a by omega), num q, x_b_some, if_pos ⟨q, q5⟩]
    · rw [if_neg (not_not_intro q), if_pos (show 5 < b - a by omega), if_neg (show ¬ b - a = 1 by omega), if_neg (fun z => q5 z.2), if_neg (fun z => by omega)]
  · rw [if_pos q, if_neg (show ¬ (t_so (w a) = 2 ∧ b - a ≤ 5) from fun z => q z.1)]
    by_cases q1 : b - a = 1
    · rw [if_pos q1]
      by_cases q3 : t_nam c (w a) = true
      · rw [if_neg (fun z => by rw [nm.mp z] at q3; cases q3), if_pos ⟨q1, q3⟩]
      · rw [if_pos (nm.mpr (by cases h : t_nam c (w a) with | false => rfl | true => exact absurd h q3)), if_neg (fun z => q3 z.2)]
    · rw [if_neg q1, if_neg (fun z => q1 z.1)]
