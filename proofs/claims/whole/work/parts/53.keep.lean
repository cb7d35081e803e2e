/-- cnt objects of w fields from cell s on come to those from cell d on -/
def x_cO (M : xM) (d s cnt w : Nat) : xM := fun a b => if d ≤ a ∧ a < d + cnt ∧ b < w then M (s + (a - d)) b else M a b
theorem x_cO_0 (M : xM) (d s w : Nat) : x_cO M d s 0 w = M := by
  funext a b
  exact if_neg (by omega)
theorem x_cO_out {M : xM} {d s cnt w a b : Nat} (h : a < d ∨ d + cnt ≤ a) : x_cO M d s cnt w a b = M a b := if_neg (by omega)
theorem x_cO_in {M : xM} {d s cnt w i b : Nat} (h : i < cnt) (hb : b < w) : x_cO M d s cnt w (d + i) b = M (s + i) b := by
  unfold x_cO
  rw [if_pos ⟨by omega, by omega, hb⟩, show d + i - d = i by omega]
theorem x_cO_s {M N : xM} {d s i w : Nat} (ho : ∀ a b, a ≠ d + i → N a b = x_cO M d s i w a b) (hi : ∀ b, b < w → N (d + i) b = M (s + i) b) (hw : ∀ b, w ≤ b → N (d + i) b = M (d + i) b) : N = x_cO M d s (i + 1) w := by
  funext a b
  by_cases q : a = d + i
  · subst q
    by_cases q2 : b < w
    · rw [hi b q2, x_cO_in (by omega) q2]
    · rw [hw b (by omega)]
      exact (if_neg (by omega)).symm
  · rw [ho a b q]
    unfold x_cO
    by_cases q2 : d ≤ a ∧ a < d + i ∧ b < w
    · rw [if_pos q2, if_pos (by omega)]
    · rw [if_neg q2, if_neg (by omega)]
theorem k_P {M : xM} {d s i : Nat} (hd : ∀ x, x < 12 → ∀ y, y < 12 → d + x ≠ s + y) (hi : i < 12) : fX4_become (x_cO M d s i 3) (d + i) (s + i) = some (x_cO M d s (i + 1) 3) := by
  unfold fX4_become
  simp only [x_l]
  refine congrArg some (x_cO_s (fun a b q => ?_) (fun b hb => ?_) (fun b hb => ?_))
  · simp (disch := omega) only [x_uo, x_uj, x_us]
  · have h1 := hd i hi i hi
    have so : ∀ b, x_cO M d s i 3 (s + i) b = M (s + i) b := fun b => by
      refine if_neg (fun q => ?_)
      exact hd (s + i - d) (by omega) i hi (by omega)
    rcases (show b = 0 ∨ b = 1 ∨ b = 2 by omega) with rfl | rfl | rfl <;> simp (disch := omega) only [x_uo, x_uj, x_us, so]
  · simp (disch := omega) only [x_uo, x_uj, x_us, x_cO_out]
theorem k_F {M : xM} {d s i : Nat} (hd : ∀ x, x < 96 → ∀ y, y < 96 → d + x ≠ s + y) (hi : i < 96) : fX1_become (x_cO M d s i 6) (d + i) (s + i) = some (x_cO M d s (i + 1) 6) := by
  unfold fX1_become fX1_begin
  simp only [x_l, x_v_some]
  refine congrArg some (x_cO_s (fun a b q => ?_) (fun b hb => ?_) (fun b hb => ?_))
  · simp (disch := omega) only [x_uo, x_uj, x_us]
  · have h1 := hd i hi i hi
    have so : ∀ b, x_cO M d s i 6 (s + i) b = M (s + i) b := fun b => by
      refine if_neg (fun q => ?_)
      exact hd (s + i - d) (by omega) i hi (by omega)
    rcases (show b = 0 ∨ b = 1 ∨ b = 2 ∨ b = 3 ∨ b = 4 ∨ b = 5 by omega) with rfl | rfl | rfl | rfl | rfl | rfl <;> simp (disch := omega) only [x_uo, x_uj, x_us, so]
  · simp (disch := omega) only [x_uo, x_uj, x_us, x_cO_out]
theorem k_D {M : xM} {d s i : Nat} (hd : ∀ x, x < 30 → ∀ y, y < 30 → d + x ≠ s + y) (hi : i < 30) : fX0_become (x_cO M d s i 5) (d + i) (s + i) = some (x_cO M d s (i + 1) 5) := by
  unfold fX0_become fX0_begin
  simp only [x_l, x_v_some]
  refine congrArg some (x_cO_s (fun a b q => ?_) (fun b hb => ?_) (fun b hb => ?_))
  · simp (disch := omega) only [x_uo, x_uj, x_us]
  · have h1 := hd i hi i hi
    have so : ∀ b, x_cO M d s i 5 (s + i) b = M (s + i) b := fun b => by
      refine if_neg (fun q => ?_)
      exact hd (s + i - d) (by omega) i hi (by omega)
    rcases (show b = 0 ∨ b = 1 ∨ b = 2 ∨ b = 3 ∨ b = 4 by omega) with rfl | rfl | rfl | rfl | rfl <;> simp (disch := omega) only [x_uo, x_uj, x_us, so]
  · simp (disch := omega) only [x_uo, x_uj, x_us, x_cO_out]
theorem k_J {M : xM} {d s i : Nat} (hd : ∀ x, x < 16 → ∀ y, y < 16 → d + x ≠ s + y) (hi : i < 16) (h8 : M (s + i) 8 = 0 ∨ M (s + i) 8 = 1) (h9 : M (s + i) 9 = 0 ∨ M (s + i) 9 = 1) : fX2_become (x_cO M d s i 10) (d + i) (s + i) = some (x_cO M d s (i + 1) 10) := by
  have h1 := hd i hi i hi
  have so : ∀ b, x_cO M d s i 10 (s + i) b = M (s + i) b := fun b => by
    refine if_neg (fun q => ?_)
    exact hd (s + i - d) (by omega) i hi (by omega)
  unfold fX2_become x_z
  simp (disch := omega) only [x_l, x_uo, x_uj, x_us, so, h8, h9, if_true]
  refine congrArg some (x_cO_s (fun a b q => ?_) (fun b hb => ?_) (fun b hb => ?_))
  · simp (disch := omega) only [x_uo, x_uj, x_us]
  · rcases (show b = 0 ∨ b = 1 ∨ b = 2 ∨ b = 3 ∨ b = 4 ∨ b = 5 ∨ b = 6 ∨ b = 7 ∨ b = 8 ∨ b = 9 by omega) with rfl | rfl | rfl | rfl | rfl | rfl | rfl | rfl | rfl | rfl <;> simp (disch := omega) only [x_uo, x_uj, x_us]
  · simp (disch := omega) only [x_uo, x_uj, x_us, x_cO_out]
/-- the four loops -/
theorem k_LP {k0 a1 d s n : Nat} (hk : k0 < 3) (e1 : ∀ j, xr 0 (xr 0 k0 5) j = d + j) (e2 : ∀ j, xr 0 (xr 0 a1 5) j = s + j) (n1 : xn 0 (xr 0 k0 5) = 12) (n2 : xn 0 (xr 0 a1 5) = 12) (hd : ∀ x, x < 12 → ∀ y, y < 12 → d + x ≠ s + y) (hd3 : 3 ≤ d) (hn : n ≤ 12) (k : xM → Option xM) {M : xM} (hM : M k0 1 = nI n) : ∀ (fu i : Nat), i ≤ n → n - i < fu → fX8_become_L42 k0 a1 k fu (x_cO M d s i 3) (nI i) = k (x_cO M d s n 3) := by
  intro fu
  induction fu with
  | zero => intro i _ h; omega
  | succ f ih =>
    intro i hi hf
    rw [fX8_become_L42, x_cO_out (by omega), hM]
    by_cases q : i = n
    · subst q
      rw [if_pos (Int32.le_refl _)]
    · rw [if_neg (u_lie (by omega) (by omega)), n1, n2, u_g (by omega) (by decide), u_g (by omega) (by decide), u_c (by omega), e1, e2, k_P hd (by omega), x_v_some, u_a1]
      exact ih (i + 1) (by omega) (by omega)
theorem k_LF {k0 a1 d s n : Nat} (hk : k0 < 3) (e1 : ∀ j, xr 0 (xr 0 k0 6) j = d + j) (e2 : ∀ j, xr 0 (xr 0 a1 6) j = s + j) (n1 : xn 0 (xr 0 k0 6) = 96) (n2 : xn 0 (xr 0 a1 6) = 96) (hd : ∀ x, x < 96 → ∀ y, y < 96 → d + x ≠ s + y) (hd3 : 3 ≤ d) (hn : n ≤ 96) (k : xM → Option xM) {M : xM} (hM : M k0 2 = nI n) : ∀ (fu i : Nat), i ≤ n → n - i < fu → fX8_become_L73 k0 a1 k fu (x_cO M d s i 6) (nI i) = k (x_cO M d s n 6) := by
  intro fu
  induction fu with
  | zero => intro i _ h; omega
  | succ f ih =>
    intro i hi hf
    rw [fX8_become_L73, x_cO_out (by omega), hM]
    by_cases q : i = n
    · subst q
      rw [if_pos (Int32.le_refl _)]
    · rw [if_neg (u_lie (by omega) (by omega)), n1, n2, u_g (by omega) (by decide), u_g (by omega) (by decide), u_c (by omega), e1, e2, k_F hd (by omega), x_v_some, u_a1]
      exact ih (i + 1) (by omega) (by omega)
theorem k_LD {k0 a1 d s n : Nat} (hk : k0 < 3) (e1 : ∀ j, xr 0 (xr 0 k0 7) j = d + j) (e2 : ∀ j, xr 0 (xr 0 a1 7) j = s + j) (n1 : xn 0 (xr 0 k0 7) = 30) (n2 : xn 0 (xr 0 a1 7) = 30) (hd : ∀ x, x < 30 → ∀ y, y < 30 → d + x ≠ s + y) (hd3 : 3 ≤ d) (hn : n ≤ 30) (k : xM → Option xM) {M : xM} (hM : M k0 3 = nI n) : ∀ (fu i : Nat), i ≤ n → n - i < fu → fX8_become_L104 k0 a1 k fu (x_cO M d s i 5) (nI i) = k (x_cO M d s n 5) := by
  intro fu
  induction fu with
  | zero => intro i _ h; omega
  | succ f ih =>
    intro i hi hf
    rw [fX8_become_L104, x_cO_out (by omega), hM]
    by_cases q : i = n
    · subst q
      rw [if_pos (Int32.le_refl _)]
    · rw [if_neg (u_lie (by omega) (by omega)), n1, n2, u_g (by omega) (by decide), u_g (by omega) (by decide), u_c (by omega), e1, e2, k_D hd (by omega), x_v_some, u_a1]
      exact ih (i + 1) (by omega) (by omega)
theorem k_LJ {k0 a1 d s n : Nat} (hk : k0 < 3) (e1 : ∀ j, xr 0 (xr 0 k0 8) j = d + j) (e2 : ∀ j, xr 0 (xr 0 a1 8) j = s + j) (n1 : xn 0 (xr 0 k0 8) = 16) (n2 : xn 0 (xr 0 a1 8) = 16) (hd : ∀ x, x < 16 → ∀ y, y < 16 → d + x ≠ s + y) (hd3 : 3 ≤ d) (hn : n ≤ 16) (k : xM → Option xM) {M : xM} (hM : M k0 4 = nI n) (hz : ∀ i, i < n → (M (s + i) 8 = 0 ∨ M (s + i) 8 = 1) ∧ (M (s + i) 9 = 0 ∨ M (s + i) 9 = 1)) : ∀ (fu i : Nat), i ≤ n → n - i < fu → fX8_become_L135 k0 a1 k fu (x_cO M d s i 10) (nI i) = k (x_cO M d s n 10) := by
  intro fu
  induction fu with
  | zero => intro i _ h; omega
  | succ f ih =>
    intro i hi hf
    rw [fX8_become_L135, x_cO_out (by omega), hM]
    by_cases q : i = n
    · subst q
      rw [if_pos (Int32.le_refl _)]
    · rw [if_neg (u_lie (by omega) (by omega)), n1, n2, u_g (by omega) (by decide), u_g (by omega) (by decide), u_c (by omega), e1, e2, k_J hd (by omega) (hz i (by omega)).1 (hz i (by omega)).2, x_v_some, u_a1]
      exact ih (i + 1) (by omega) (by omega)
