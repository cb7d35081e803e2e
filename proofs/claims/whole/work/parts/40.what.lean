/-! WHAT of a person on a day as known on a day -/
def sp_ok (s : Nat → Int32) (p w d k : Int32) (i : Nat) : Bool := decide (s (66 + 6 * i) = p ∧ s (66 + 6 * i + 1) = w ∧ s (66 + 6 * i + 4) ≤ d ∧ s (66 + 6 * i + 5) ≤ k)
def sp_bt (s : Nat → Int32) (i b : Nat) : Bool := decide (s (66 + 6 * b + 2) < s (66 + 6 * i + 2) ∨ (s (66 + 6 * i + 2) = s (66 + 6 * b + 2) ∧ s (66 + 6 * b + 4) ≤ s (66 + 6 * i + 4)))
def sp_nx (s : Nat → Int32) (p w d k : Int32) (n : Nat) (o : Option Nat) : Option Nat := if sp_ok s p w d k n = true then (match o with
    | none => some n
    | some b => if sp_bt s n b = true then some n else some b) else o
def sp_best (s : Nat → Int32) (p w d k : Int32) : Nat → Option Nat
  | 0 => none
  | n + 1 => sp_nx s p w d k n (sp_best s p w d k n)
def sp_bi (o : Option Nat) : Int32 := match o with
  | none => -1
  | some b => nI b
def sp_what (s : Nat → Int32) (nF : Nat) (p w d k : Int32) : Int32 := match sp_best s p w d k nF with
  | none => if w = 0 then s 1 else 0
  | some b => s (66 + 6 * b + 3)
theorem sp_best_lt {s : Nat → Int32} {p w d k : Int32} : ∀ {n b : Nat}, sp_best s p w d k n = some b → b < n
  | 0, b, h => by cases h
  | n + 1, b, h => by
    rw [sp_best, sp_nx.eq_def] at h
    have ih : ∀ b, sp_best s p w d k n = some b → b < n := fun b h => sp_best_lt h
    cases hb : sp_best s p w d k n with
    | none =>
      rw [hb] at h
      grind
    | some x =>
      rw [hb] at h
      have := ih x hb
      grind
theorem p_what_L {M : xM} {p w d k : Int32} {nF : Nat} (kk : xM → Int32 → Option (Int32 × xM)) (hF : M 1 18 = nI nF) (hn : nF ≤ 96) : ∀ (fu i : Nat), i ≤ nF → nF - i < fu → fX11_whatOf_L6 p w d k kk fu M (sp_bi (sp_best (M 1) p w d k i)) (nI i) = kk M (sp_bi (sp_best (M 1) p w d k nF)) := by
  intro fu
  induction fu with
  | zero => intro i _ h; omega
  | succ n ih =>
    intro i hi hf
    rw [fX11_whatOf_L6, hF]
    by_cases q : nF ≤ i
    · obtain rfl : i = nF := by omega
      rw [if_pos (Int32.le_refl _)]
    · have ih1 := ih (i + 1) (by omega) (by omega)
      rw [if_neg (by rw [l_len (by omega) (by omega)]; exact q)]
      rw [sp_best, sp_nx.eq_def] at ih1
      cases hb : sp_best (M 1) p w d k i with
      | none =>
        simp only [hb] at ih1
        simp (maxSteps := 2000000) (disch := omega) only [x_l, u_6, u_a1, u_a2, u_a4, u_a5, u_g, u_c, sp_bi]
        unfold sp_ok at ih1
        grind [sp_bi]
      | some x =>
        have hx := sp_best_lt hb
        simp only [hb] at ih1
        simp (maxSteps := 2000000) (disch := omega) only [x_l, u_6, u_a1, u_a2, u_a4, u_a5, u_g, u_c, sp_bi]
        unfold sp_ok sp_bt at ih1
        have hne : ¬ nI x = (-1 : Int32) := by rw [l_neg (by omega)]; exact id
        grind [sp_bi]
theorem p_what {M : xM} {nF : Nat} (p w d k : Int32) (hF : M 1 18 = nI nF) (hn : nF ≤ 96) : fX11_whatOf M p w d k = some (sp_what (M 1) nF p w d k, M) := by
  unfold fX11_whatOf
  have := p_what_L (M := M) (p := p) (w := w) (d := d) (k := k) (fun (M_3 : xM) (x5_1 : Int32) => if x5_1 = (-1 : Int32) then (if w = 0 then (some ((M_3 1 1), M_3)) else (some ((0 : Int32), M_3))) else (x_g (((66 : Int32) + ((6 : Int32) * x5_1)) + (3 : Int32)) 1675 (some ((M_3 1 (((66 : Int32) + ((6 : Int32) * x5_1)) + (3 : Int32)).toNatClampNeg), M_3)))) hF hn x_FU 0 (Nat.zero_le _) (by rw [x_FU_eq]; omega)
  refine (Eq.trans ?_ this).trans ?_
  · rfl
  · unfold sp_what
    cases hb : sp_best (M 1) p w d k nF with
    | none =>
      simp only [sp_bi, if_true]
      split <;> rfl
    | some x =>
      have hx := sp_best_lt hb
      simp (disch := omega) only [sp_bi, u_3, u_6, u_5, u_10, u_1, u_24, u_a1, u_a2, u_a3, u_a4, u_a5, u_a6, u_a7, u_a8, u_m1, u_g, u_c, l_neg, if_false]
theorem c_tells (M : xM) (k : Nat) (a b c d : Int32) : fX1_tells M k a b c d = some ((if M k 0 = a ∧ M k 1 = b ∧ M k 4 ≤ c ∧ M k 5 ≤ d then 1 else 0), M) := by
  unfold fX1_tells x_l
  grind
theorem c_outdoes (M : xM) (k a : Nat) : fX1_outdoes M k a = some ((if M a 2 < M k 2 ∨ (M k 2 = M a 2 ∧ M a 4 ≤ M k 4) then 1 else 0), M) := by
  unfold fX1_outdoes
  grind
theorem c_what_L {C : xM} {s : Nat → Int32} {p w d k : Int32} {nF : Nat} (kk : xM → Int32 → Option (Int32 × xM)) (hF : C 1 2 = nI nF) (hn : nF ≤ 96) (gF : r_F 0 C s nF) : ∀ (fu i : Nat), i ≤ nF → nF - i < fu → fX8_valueOf_L6 p w d k kk fu C (sp_bi (sp_best s p w d k i)) (nI i) = kk C (sp_bi (sp_best s p w d k nF)) := by
  intro fu
  induction fu with
  | zero => intro i _ h; omega
  | succ n ih =>
    intro i hi hf
    rw [fX8_valueOf_L6, hF]
    by_cases q : nF ≤ i
    · obtain rfl : i = nF := by omega
      rw [if_pos (Int32.le_refl _)]
    · have ih1 := ih (i + 1) (by omega) (by omega)
      rw [if_neg (by rw [l_len (by omega) (by omega)]; exact q)]
      rw [sp_best, sp_nx.eq_def] at ih1
      have g0 : C (43 + i) 0 = s (66 + 6 * i) := gF i (by omega) 0 (by decide)
      have g1 : C (43 + i) 1 = s (66 + 6 * i + 1) := gF i (by omega) 1 (by decide)
      have g2 : C (43 + i) 2 = s (66 + 6 * i + 2) := gF i (by omega) 2 (by decide)
      have g4 : C (43 + i) 4 = s (66 + 6 * i + 4) := gF i (by omega) 4 (by decide)
      have g5 : C (43 + i) 5 = s (66 + 6 * i + 5) := gF i (by omega) 5 (by decide)
      cases hb : sp_best s p w d k i with
      | none =>
        simp only [hb] at ih1
        simp (disch := omega) only [x_l, x_b_some, c_tells, u_3, u_6, u_5, u_10, u_1, u_24, u_a1, u_a2, u_a3, u_a4, u_a5, u_a6, u_a7, u_a8, u_m1, u_g, u_c, sp_bi, u_if0, g0, g1, g4, g5]
        unfold sp_ok at ih1
        have : (-1 : Int32) < 0 := by decide
        grind [sp_bi]
      | some x =>
        have hx := sp_best_lt hb
        have e2 : C (43 + x) 2 = s (66 + 6 * x + 2) := gF x (by omega) 2 (by decide)
        have e4 : C (43 + x) 4 = s (66 + 6 * x + 4) := gF x (by omega) 4 (by decide)
        simp only [hb] at ih1
        simp (disch := omega) only [x_l, x_b_some, c_tells, c_outdoes, u_3, u_6, u_5, u_10, u_1, u_24, u_a1, u_a2, u_a3, u_a4, u_a5, u_a6, u_a7, u_a8, u_m1, u_g, u_c, sp_bi, u_if0, g0, g1, g2, g4, g5, e2, e4]
        unfold sp_ok sp_bt at ih1
        have hne : ¬ nI x < 0 := nI_pos (by omega)
        grind [sp_bi]
theorem c_what {C : xM} {s : Nat → Int32} {nF : Nat} (p w d k : Int32) (hF : C 1 2 = nI nF) (hn : nF ≤ 96) (gF : r_F 0 C s nF) (hg : C 23 0 = s 1) : fX8_valueOf C p w d k = some (sp_what s nF p w d k, C) := by
  unfold fX8_valueOf
  have := c_what_L (C := C) (s := s) (p := p) (w := w) (d := d) (k := k) (fun (M_3 : xM) (x5_1 : Int32) => if x5_1 < 0 then (if w = 0 then (some ((M_3 23 0), M_3)) else (some ((0 : Int32), M_3))) else (x_g x5_1 96 (some ((M_3 (43 + x5_1.toNatClampNeg) 3), M_3)))) hF hn gF x_FU 0 (Nat.zero_le _) (by rw [x_FU_eq]; omega)
  refine (Eq.trans ?_ this).trans ?_
  · rfl
  · unfold sp_what
    cases hb : sp_best s p w d k nF with
    | none =>
      simp only [sp_bi, hg]
      rw [if_pos (by decide)]
      split <;> rfl
    | some x =>
      have hx := sp_best_lt hb
      have e3 : C (43 + x) 3 = s (66 + 6 * x + 3) := gF x hx 3 (by decide)
      have hne : ¬ nI x < 0 := nI_pos (by omega)
      simp (disch := omega) only [sp_bi, u_3, u_6, u_5, u_10, u_1, u_24, u_a1, u_a2, u_a3, u_a4, u_a5, u_a6, u_a7, u_a8, u_m1, u_g, u_c, hne, if_false, e3]
