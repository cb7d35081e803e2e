/-- the class's search by halves -/
theorem w_add {b a : Nat} (h : 1 ≤ b + a) : w_t b + nI a = nI (b + a - 1) := by
  unfold w_t
  by_cases q : b = 0
  · rw [if_pos q, q, show a = a - 1 + 1 by omega, ← u_a1, Int32.add_comm, Int32.add_assoc, show (1 : Int32) + -1 = 0 from rfl, Int32.add_zero, show 0 + (a - 1 + 1) - 1 = a - 1 by omega]
  · rw [if_neg q, nI_add, show b - 1 + a = b + a - 1 by omega]
theorem w_subl {b a : Nat} (hb : b ≤ a) (ha : a < 2 ^ 30) : (nI a - w_t b ≤ (1 : Int32)) = (a ≤ b) := by
  unfold w_t
  by_cases q : b = 0
  · rw [if_pos q, Int32.sub_neg, u_a1, q]
    exact (kn1_le (by omega)).trans (by simp)
  · rw [if_neg q, pk_sub (by omega)]
    exact (kn1_le (by omega)).trans (propext (by omega))
theorem c_lu {C : xM} {F : Nat → Bool} {p : Nat} (hF : ∀ L, L ≤ 99999 → fX5_holds C (nI p) (nI L) = some ((if F L = true then 1 else 0), C)) (hm : ∀ a b, a ≤ b → F a = true → F b = true) : ∀ (fu i b a : Nat), i ≤ 32 → 32 - i < fu → b ≤ a → a ≤ 99999 → a - b < 2 ^ (32 - i) → F a = true → (∀ x, x < b → F x = false) → ∃ r, r ≤ a ∧ l_least F r ∧ fX5_leastUpTo_L9 (nI p) fu C (w_t b) (nI a) (nI i) = some (nI r, C) := by
  intro fu
  induction fu with
  | zero => intro i b a _ h; omega
  | succ fu ih =>
    intro i b a hi hf hba ha hw hFa hFb
    have fin : a ≤ b → l_least F a := fun z => ⟨hFa, fun x hx => hFb x (by omega)⟩
    rw [fX5_leastUpTo_L9]
    by_cases q : i = 32
    · subst q
      rw [if_pos (show (32 : Int32) ≤ nI 32 from by decide)]
      exact ⟨a, Nat.le_refl _, fin (by rw [show 32 - 32 = 0 from rfl] at hw; omega), rfl⟩
    · rw [if_neg (show ¬ (32 : Int32) ≤ nI i from u_lie (b := 32) (by omega) (by decide))]
      simp only [w_subl hba (show a < 2 ^ 30 by omega)]
      by_cases z : a ≤ b
      · rw [if_pos z]
        exact ⟨a, Nat.le_refl _, fin z, rfl⟩
      · have hp : 2 ^ (32 - i) = 2 * 2 ^ (32 - (i + 1)) := by
          rw [show 32 - i = 32 - (i + 1) + 1 by omega, Nat.pow_succ, Nat.mul_comm]
        have e2 : nI (b + a - 1) / (2 : Int32) = nI ((b + a - 1) / 2) := pk_div (d := 2) (by omega) (by decide) (by decide)
        rw [if_neg z, w_add (by omega), e2, x_lb, hF _ (by omega), x_b_some]
        simp only [x_lb, u_a1]
        by_cases y : F ((b + a - 1) / 2) = true
        · rw [if_pos y, if_neg (by decide : ¬ (1 : Int32) = 0)]
          obtain ⟨r, r1, r2, r3⟩ := ih (i + 1) b ((b + a - 1) / 2) (by omega) (by omega) (by omega) (by omega) (by omega) y hFb
          exact ⟨r, by omega, r2, r3⟩
        · rw [if_neg y, if_pos rfl]
          obtain ⟨r, r1, r2, r3⟩ := ih (i + 1) ((b + a - 1) / 2 + 1) a (by omega) (by omega) (by omega) ha (by omega) hFa (fun x hx => by
            cases e : F x with
            | false => rfl
            | true => exact absurd (hm x _ (by omega) e) y)
          rw [w_ts] at r3
          exact ⟨r, r1, r2, r3⟩
/-- what is paid in a month, what is left ahead of it, how many rows -/
def l_LF (R : Nat → Nat) (L W : Nat) : Nat → Nat
  | 0 => W
  | m + 1 => l_LF R L W m - min (l_LF R L W m) (min (R m) L)
def l_pay (R : Nat → Nat) (L W m : Nat) : Nat := min (l_LF R L W m) (min (R m) L)
def l_rw (R : Nat → Nat) (L W : Nat) : Nat → Nat
  | 0 => 0
  | m + 1 => if l_pay R L W m = 0 then l_rw R L W m else m + 1
theorem l_LF.le {R : Nat → Nat} {L W : Nat} : ∀ m, l_LF R L W m ≤ W
  | 0 => Nat.le_refl _
  | m + 1 => by
    have := l_LF.le (R := R) (L := L) (W := W) m
    rw [l_LF]
    omega
theorem l_rw.le {R : Nat → Nat} {L W : Nat} : ∀ m, l_rw R L W m ≤ m
  | 0 => Nat.le_refl _
  | m + 1 => by
    have := l_rw.le (R := R) (L := L) (W := W) m
    rw [l_rw]
    split <;> omega
theorem l_LF.z {R R' : Nat → Nat} {L : Nat} : ∀ m, l_LF R L 0 m = l_LF R' L 0 m
  | 0 => rfl
  | m + 1 => by
    have a := l_LF.le (R := R) (L := L) (W := 0) (m + 1)
    have b := l_LF.le (R := R') (L := L) (W := 0) (m + 1)
    omega
theorem l_pay.z {R : Nat → Nat} {L : Nat} (m : Nat) : l_pay R L 0 m = 0 := by
  have a := l_LF.le (R := R) (L := L) (W := 0) m
  unfold l_pay
  omega
theorem c_sp_ {R : Nat → Nat} {L W : Nat} (bR : ∀ m, R m ≤ 99999) (hL : L ≤ 200000) (hW : W < 2 ^ 31) : ∀ (fu m : Nat) (C : xM), m ≤ 24 → 24 - m < fu → C 4 2 = nI L → (∀ x, x < 24 → C 17 x = nI (R x)) → (∀ x, x < m → C 18 x = nI (l_pay R L W x)) → C 4 3 = nI (l_rw R L W m) → ∃ C', fX5_setPays_L9 fu C (nI (l_LF R L W m)) (nI m) = some C' ∧ (∀ a b, ¬ (a = 18 ∨ (a = 4 ∧ b = 3)) → C' a b = C a b) ∧ (∀ x, x < 24 → C' 18 x = nI (l_pay R L W x)) ∧ C' 4 3 = nI (l_rw R L W 24) := by
  intro fu
  induction fu with
  | zero => intro m C _ h; omega
  | succ fu ih =>
    intro m C hm hf h2 h17 h18 h3
    rw [fX5_setPays_L9]
    by_cases q : m = 24
    · subst q
      rw [if_pos (show (24 : Int32) ≤ nI 24 from by decide)]
      exact ⟨C, rfl, fun _ _ _ => rfl, h18, h3⟩
    · have hm' : m < 24 := by omega
      have b1 := bR m
      have b2 := l_LF.le (R := R) (L := L) (W := W) m
      have ep : (if (if nI L < nI (R m) then nI L else nI (R m)) < nI (l_LF R L W m) then (if nI L < nI (R m) then nI L else nI (R m)) else nI (l_LF R L W m)) = nI (l_pay R L W m) := by
        rw [u_min (by omega) (by omega), u_min (by omega) (by omega)]
        rfl
      have es : nI (l_LF R L W m) - nI (l_pay R L W m) = nI (l_LF R L W (m + 1)) := pk_sub (by unfold l_pay; omega)
      have pl : l_pay R L W m < 2 ^ 31 := by unfold l_pay; omega
      rw [if_neg (show ¬ (24 : Int32) ≤ nI m from u_lie (b := 24) hm' (by decide))]
      simp (disch := omega) only [x_lb, u_g, u_c, h2, h17 m hm', ep, x_uo, x_uj, x_us, es, u_a1, kn0_le pl]
      by_cases z : l_pay R L W m = 0
      · rw [if_pos (by omega)]
        obtain ⟨C', e1, e2, e3, e4⟩ := ih (m + 1) (x_up C 18 m (nI (l_pay R L W m))) (by omega) (by omega) (by simp (disch := omega) only [x_uo, x_uj, x_us]; exact h2) (fun x hx => by simp (disch := omega) only [x_uo, x_uj, x_us]; exact h17 x hx) (fun x hx => by
          by_cases y : x = m
          · subst y; simp (disch := omega) only [x_uo, x_uj, x_us]
          · simp (disch := omega) only [x_uo, x_uj, x_us]; exact h18 x (by omega)) (by rw [l_rw, if_pos z]; simp (disch := omega) only [x_uo, x_uj, x_us]; exact h3)
        exact ⟨C', e1, fun a b h => (e2 a b h).trans (x_uo (by omega)), e3, e4⟩
      · rw [if_neg (by omega)]
        obtain ⟨C', e1, e2, e3, e4⟩ := ih (m + 1) (x_up (x_up C 18 m (nI (l_pay R L W m))) 4 3 (nI (m + 1))) (by omega) (by omega) (by simp (disch := omega) only [x_uo, x_uj, x_us]; exact h2) (fun x hx => by simp (disch := omega) only [x_uo, x_uj, x_us]; exact h17 x hx) (fun x hx => by
          by_cases y : x = m
          · subst y; simp (disch := omega) only [x_uo, x_uj, x_us]
          · simp (disch := omega) only [x_uo, x_uj, x_us]; exact h18 x (by omega)) (by rw [l_rw, if_neg z]; simp (disch := omega) only [x_uo, x_uj, x_us])
        refine ⟨C', e1, fun a b h => (e2 a b h).trans ?_, e3, e4⟩
        by_cases y : a = 4
        · subst y
          rw [x_uj (by omega), x_uo (by omega)]
        · rw [x_uo y, x_uo (by omega)]
/-- what the row s says -/
def s_o (s : Nat → Int32) (p j : Nat) : Bool := decide (s (792 + 10 * j) = nI p ∧ ¬ s (792 + 10 * j + 5) = 3 ∧ ¬ sp_unp s j = 0)
def s_U (s : Nat → Int32) (nJ j : Nat) : Nat := if j < nJ then (sp_unp s j).toNatClampNeg else 0
def s_D (s : Nat → Int32) (nJ j : Nat) : Nat := if j < nJ then (s (792 + 10 * j + 1)).toNatClampNeg + (s 13).toNatClampNeg else 0
def s_R (s : Nat → Int32) (nF p m : Nat) : Nat := (sp_room s nF p (nI m)).toNatClampNeg
theorem s_U.eq {s : Nat → Int32} {nP nJ t : Nat} (iJ : i_J s nP nJ t) : (∀ j, s_U s nJ j ≤ 99980001) ∧ ∀ j, j < nJ → sp_unp s j = nI (s_U s nJ j) := by
  have key : ∀ j, j < nJ → s_U s nJ j ≤ 99980001 ∧ sp_unp s j = nI (s_U s nJ j) := fun j hj => by
    obtain ⟨-, -, ⟨da, hda, ea⟩, ⟨su, hsu, es⟩, ⟨pa, hpa, ep⟩, -⟩ := iJ.1 j hj
    have h99 := u_99 hda hsu
    have e := b_unp ea es ep (by omega) (by omega)
    unfold s_U
    rw [if_pos hj, e, u_c (by omega)]
    exact ⟨by omega, rfl⟩
  refine ⟨fun j => ?_, fun j hj => (key j hj).2⟩
  by_cases hj : j < nJ
  · exact (key j hj).1
  · unfold s_U
    rw [if_neg hj]
    omega
theorem s_D.eq {s : Nat → Int32} {nP nJ t : Nat} (iJ : i_J s nP nJ t) (ht : t ≤ 3000) (iR : i_R s) : (∀ j, s_D s nJ j ≤ 6000) ∧ ∀ j, j < nJ → s (792 + 10 * j + 1) + s 13 = nI (s_D s nJ j) := by
  obtain ⟨T, hT, eT⟩ := g_rule iR (j := 12) 3000 (by decide) (by decide) (by decide)
  have eT' : s 13 = nI T := eT
  have key : ∀ j, j < nJ → s_D s nJ j ≤ 6000 ∧ s (792 + 10 * j + 1) + s 13 = nI (s_D s nJ j) := fun j hj => by
    obtain ⟨-, ⟨d, hd, ed⟩, -⟩ := iJ.1 j hj
    unfold s_D
    rw [if_pos hj, ed, eT', u_c (by omega), u_c (by omega), nI_add]
    exact ⟨by omega, rfl⟩
  refine ⟨fun j => ?_, fun j hj => (key j hj).2⟩
  by_cases hj : j < nJ
  · exact (key j hj).1
  · unfold s_D
    rw [if_neg hj]
    omega
theorem b_room {s : Nat → Int32} {nF : Nat} (i : Nat) (m : Int32) (iF : i_F s nF) (iR : i_R s) : ∃ v, v ≤ 99999 ∧ sp_room s nF i m = nI v := by
  obtain ⟨A, hA, eA⟩ := b_earn i (s 0 + 30 * m) (s 0) iF iR
  obtain ⟨B, hB, eB⟩ := b_what (nI i) 1 (s 0 + 30 * m) (s 0) iF iR
  obtain ⟨Z, hZ, eZ⟩ := b_what (nI i) 3 (s 0 + 30 * m) (s 0) iF iR
  obtain ⟨N, hN, eN⟩ := g_rule iR (j := 13) 9999 (by decide) (by decide) (by decide)
  obtain ⟨S, hS, eS⟩ := g_rule iR (j := 14) 100 (by decide) (by decide) (by decide)
  have eN' : s 14 = nI N := eN
  have eS' : s 15 = nI S := eS
  have hNB : N * (1 + B) ≤ 9999 * 100000 := Nat.mul_le_mul hN (by omega)
  unfold sp_room sp_rx
  rw [eA, eB, eZ, eN', eS', show (1 : Int32) = nI 1 from rfl, nI_add, pk_mul]
  by_cases q : N * (1 + B) + Z < A
  · rw [pk_sub (by omega), pk_sub (by omega), if_pos (show (0 : Int32) < nI _ from nI_lt (a := 0) (by omega) (by omega)), pk_mul]
    have : (A - N * (1 + B) - Z) * S ≤ 99999 * 100 := Nat.mul_le_mul (by omega) hS
    rw [show (100 : Int32) = nI 100 from rfl, pk_div (by omega) (by decide) (by decide)]
    exact ⟨_, by omega, rfl⟩
  · refine ⟨0, by omega, if_neg ?_⟩
    have e1 : (nI A - nI (N * (1 + B)) : Int32).toInt = (A : Int) - (N * (1 + B) : Nat) := by
      rw [fb_subI (by rw [nI_toInt (by omega), nI_toInt (by omega)]; omega) (by rw [nI_toInt (by omega), nI_toInt (by omega)]; omega), nI_toInt (by omega), nI_toInt (by omega)]
    rw [Int32.lt_iff_toInt_lt, fb_subI (by rw [e1, nI_toInt (by omega)]; omega) (by rw [e1, nI_toInt (by omega)]; omega), e1, nI_toInt (by omega)]
    have : (0 : Int32).toInt = 0 := rfl
    omega
theorem s_R.eq {s : Nat → Int32} {nF : Nat} (p : Nat) (iF : i_F s nF) (iR : i_R s) : (∀ m, s_R s nF p m ≤ 99999) ∧ ∀ m, sp_room s nF p (nI m) = nI (s_R s nF p m) := by
  have key : ∀ m, s_R s nF p m ≤ 99999 ∧ sp_room s nF p (nI m) = nI (s_R s nF p m) := fun m => by
    obtain ⟨v, hv, e⟩ := b_room p (nI m) iF iR
    unfold s_R
    rw [e, u_c (by omega)]
    exact ⟨hv, rfl⟩
  exact ⟨fun m => (key m).1, fun m => (key m).2⟩
