theorem p_wordG {M : xM} {a : Nat} {a1 a2 a3 a4 a5 : Int32} {P0 P1 P2 P3 P4 : Prop} {i0 : Decidable P0} {i1 : Decidable P1} {i2 : Decidable P2} {i3 : Decidable P3} {i4 : Decidable P4} (h5 : M 0 5 = nI a) (l0 : fX11_isLetter M (nI a) a1 = some ((if P0 then 1 else 0), M)) (l1 : fX11_isLetter M (nI (a + 1)) a2 = some ((if P1 then 1 else 0), M)) (l2 : fX11_isLetter M (nI (a + 2)) a3 = some ((if P2 then 1 else 0), M)) (l3 : fX11_isLetter M (nI (a + 3)) a4 = some ((if P3 then 1 else 0), M)) (l4 : fX11_isLetter M (nI (a + 4)) a5 = some ((if P4 then 1 else 0), M)) : fX11_isWord M a1 a2 a3 a4 a5 = some ((if (M 0 8 = 1 ∧ P0 ∧ P1 ∧ P2) ∧ (a3 = 0 ∨ P3) ∧ (a4 = 0 ∨ P4) ∧ (a5 = 0 ∨ M 0 6 = nI (a + 5)) then 1 else 0), M) := by
  unfold fX11_isWord
  have h10 : ((1 : Int32) = 0) = False := eq_false (by decide)
  have e5 : nI a + 5 = nI (a + 5) := nI_add a 5
  simp only [x_lb, h5, u_a1, u_a2, u_a3, u_a4, e5, l0, l1, l2, l3, l4, x_b_some, u_if0, h10, if_false, if_true]
  by_cases q : M 0 8 = 1
  · by_cases p0 : P0
    · by_cases p1 : P1
      · by_cases p2 : P2
        · by_cases z3 : a3 = 0
          · by_cases z4 : a4 = 0
            · by_cases z5 : a5 = 0
              · simp [q, p0, p1, p2, z3, z4, z5]
              · by_cases z6 : M 0 6 = nI (a + 5)
                · simp [q, p0, p1, p2, z3, z4, z5, z6]
                · simp [q, p0, p1, p2, z3, z4, z5, z6]
            · by_cases p4 : P4
              · by_cases z5 : a5 = 0
                · simp [q, p0, p1, p2, z3, z4, z5, p4]
                · by_cases z6 : M 0 6 = nI (a + 5)
                  · simp [q, p0, p1, p2, z3, z4, z5, z6, p4]
                  · simp [q, p0, p1, p2, z3, z4, z5, z6, p4]
              · simp [q, p0, p1, p2, z3, z4, p4]
          · by_cases p3 : P3
            · by_cases z4 : a4 = 0
              · by_cases z5 : a5 = 0
                · simp [q, p0, p1, p2, z3, z4, z5, p3]
                · by_cases z6 : M 0 6 = nI (a + 5)
                  · simp [q, p0, p1, p2, z3, z4, z5, z6, p3]
                  · simp [q, p0, p1, p2, z3, z4, z5, z6, p3]
              · by_cases p4 : P4
                · by_cases z5 : a5 = 0
                  · simp [q, p0, p1, p2, z3, z4, z5, p4, p3]
                  · by_cases z6 : M 0 6 = nI (a + 5)
                    · simp [q, p0, p1, p2, z3, z4, z5, z6, p4, p3]
                    · simp [q, p0, p1, p2, z3, z4, z5, z6, p4, p3]
                · simp [q, p0, p1, p2, z3, z4, p4, p3]
            · simp [q, p0, p1, p2, z3, p3]
        · simp [q, p0, p1, p2]
      · simp [q, p0, p1]
    · simp [q, p0]
  · simp [q]
/-- the words of the reference, by the number of the row -/
noncomputable def p_hw (c : Nat) (M : xM) : Option (Int32 × xM) := if c = 0 then fX11_isWord M 100 97 121 115 0 else if c = 1 then fX11_isWord M 115 117 109 0 0 else fX11_isWord M 104 111 117 114 115
theorem p_letD {M : xM} {at_ b : Nat} (z : Int32) (hb : b ≤ 120) (h6 : M 0 6 = nI b) (hat : at_ ≤ 200) : ∃ v, (v = 0 ∨ v = 1) ∧ fX11_isLetter M (nI at_) z = some (v, M) := by
  by_cases q : z = 0
  · rw [q, p_let0 hb hat h6]
    by_cases y : at_ = b
    · exact ⟨1, Or.inr rfl, by rw [if_pos y]⟩
    · exact ⟨0, Or.inl rfl, by rw [if_neg y]⟩
  · unfold fX11_isLetter
    rw [if_neg q, x_lb, h6]
    by_cases y : at_ < b
    · rw [if_neg (u_lie y (by omega)), u_g (by omega) (by omega)]
      by_cases x : M 3 (nI at_).toNatClampNeg = z
      · exact ⟨1, Or.inr rfl, by rw [if_pos x]⟩
      · exact ⟨0, Or.inl rfl, by rw [if_neg x]⟩
    · rw [if_pos (nI_le (by omega) (by omega))]
      exact ⟨0, Or.inl rfl, rfl⟩
theorem v01 {v : Int32} (h : v = 0 ∨ v = 1) : v = if v = 1 then 1 else 0 := by
  rcases h with rfl | rfl <;> rfl
theorem p_wordD {M : xM} (hp : z_ps M) (c : Nat) : ∃ v, p_hw c M = some (v, M) := by
  obtain ⟨a, b, h5, h6, ha, hb⟩ := hp
  have key : ∀ a1 a2 a3 a4 a5 : Int32, ∃ v, fX11_isWord M a1 a2 a3 a4 a5 = some (v, M) := fun a1 a2 a3 a4 a5 => by
    obtain ⟨v0, w0, l0⟩ := p_letD (M := M) (at_ := a) a1 hb h6 (by omega)
    obtain ⟨v1, w1, l1⟩ := p_letD (M := M) (at_ := a + 1) a2 hb h6 (by omega)
    obtain ⟨v2, w2, l2⟩ := p_letD (M := M) (at_ := a + 2) a3 hb h6 (by omega)
    obtain ⟨v3, w3, l3⟩ := p_letD (M := M) (at_ := a + 3) a4 hb h6 (by omega)
    obtain ⟨v4, w4, l4⟩ := p_letD (M := M) (at_ := a + 4) a5 hb h6 (by omega)
    rw [v01 w0] at l0
    rw [v01 w1] at l1
    rw [v01 w2] at l2
    rw [v01 w3] at l3
    rw [v01 w4] at l4
    exact ⟨_, p_wordG h5 l0 l1 l2 l3 l4⟩
  unfold p_hw
  split
  · exact key _ _ _ _ _
  · split
    · exact key _ _ _ _ _
    · exact key _ _ _ _ _
theorem p_word {M : xM} {n a b c : Nat} {w : Nat → Nat} (hc : c < 3) (hn : n ≤ 120) (ha : a < n) (hab : a < b) (hbn : b ≤ n) (hw : ∀ i, w i ≤ 255) (h5 : M 0 5 = nI a) (h6 : M 0 6 = nI b) (h8 : M 0 8 = nI (t_so (w a))) (ht : ∀ i, i < n → M 3 i = nI (w i)) : ∃ v, (v = 0 ∨ v = 1) ∧ p_hw c M = some (v, M) ∧ (v = 1 ↔ t_hw w a b c) := by
  have hso := t_so.le (w a)
  have L : ∀ (j k : Nat), j ≤ 4 → k ≠ 0 → k ≤ 255 → fX11_isLetter M (nI (a + j)) (nI k) = some ((if a + j < b ∧ w (a + j) = k then 1 else 0), M) := fun j k hj hk hk2 => p_let hn hbn hk hk2 (by omega) hw h6 ht
  have Z : ∀ j, j ≤ 4 → fX11_isLetter M (nI (a + j)) 0 = some ((if a + j = b then 1 else 0), M) := fun j hj => p_let0 (by omega) (by omega) h6
  have h81 : (M 0 8 = 1) = (t_so (w a) = 1) := by rw [h8]; exact kn1_eq (by omega)
  have h65 : (M 0 6 = nI (a + 5)) = (b = a + 5) := by rw [h6]; exact l_eqn (by omega) (by omega)
  have eb : ∀ j k, k ≤ 255 → (nI (w (a + j)) = nI k ↔ w (a + j) = k) := fun j k hk => by
    have := hw (a + j)
    rw [l_eqn (by omega) (by omega)]
  have fin : ∀ (P : Prop) [Decidable P], (P ↔ t_hw w a b c) → p_hw c M = some ((if P then 1 else 0), M) → ∃ v, (v = 0 ∨ v = 1) ∧ p_hw c M = some (v, M) ∧ (v = 1 ↔ t_hw w a b c) := fun P _ h1 h2 => by
    by_cases q : P
    · rw [if_pos q] at h2
      exact ⟨1, Or.inr rfl, h2, fun _ => h1.mp q, fun _ => rfl⟩
    · rw [if_neg q] at h2
      exact ⟨0, Or.inl rfl, h2, fun z => absurd z (by decide), fun z => absurd (h1.mpr z) q⟩
  rcases (show c = 0 ∨ c = 1 ∨ c = 2 by omega) with rfl | rfl | rfl
  · refine fin _ ?_ (p_wordG h5 (L 0 100 (by decide) (by decide) (by decide)) (L 1 97 (by decide) (by decide) (by decide)) (L 2 121 (by decide) (by decide) (by decide)) (L 3 115 (by decide) (by decide) (by decide)) (Z 4 (by decide)))
    unfold t_hw
    rw [h81, show xs_n 0 = 4 from rfl]
    constructor
    · rintro ⟨⟨-, ⟨x0, y0⟩, ⟨x1, y1⟩, ⟨x2, y2⟩⟩, z3, z4, -⟩
      have z3 := z3.resolve_left (by decide)
      have z4 := z4.resolve_left (by decide)
      refine ⟨by omega, fun j hj => ?_⟩
      rcases (show j = 0 ∨ j = 1 ∨ j = 2 ∨ j = 3 by omega) with rfl | rfl | rfl | rfl
      · exact (eb 0 100 (by decide)).mpr y0
      · exact (eb 1 97 (by decide)).mpr y1
      · exact (eb 2 121 (by decide)).mpr y2
      · exact (eb 3 115 (by decide)).mpr z3.2
    · rintro ⟨x, y⟩
      have y0 := (eb 0 100 (by decide)).mp (y 0 (by omega))
      have y1 := (eb 1 97 (by decide)).mp (y 1 (by omega))
      have y2 := (eb 2 121 (by decide)).mp (y 2 (by omega))
      have y3 := (eb 3 115 (by decide)).mp (y 3 (by omega))
      exact ⟨⟨(t_let _).mpr (by rw [show w a = 100 from y0]; omega), ⟨by omega, y0⟩, ⟨by omega, y1⟩, ⟨by omega, y2⟩⟩, Or.inr ⟨by omega, y3⟩, Or.inr (by omega), Or.inl rfl⟩
  · refine fin _ ?_ (p_wordG h5 (L 0 115 (by decide) (by decide) (by decide)) (L 1 117 (by decide) (by decide) (by decide)) (L 2 109 (by decide) (by decide) (by decide)) (Z 3 (by decide)) (Z 4 (by decide)))
    unfold t_hw
    rw [h81, show xs_n 1 = 3 from rfl]
    constructor
    · rintro ⟨⟨-, ⟨x0, y0⟩, ⟨x1, y1⟩, ⟨x2, y2⟩⟩, z3, -, -⟩
      have z3 := z3.resolve_left (by decide)
      refine ⟨by omega, fun j hj => ?_⟩
      rcases (show j = 0 ∨ j = 1 ∨ j = 2 by omega) with rfl | rfl | rfl
      · exact (eb 0 115 (by decide)).mpr y0
      · exact (eb 1 117 (by decide)).mpr y1
      · exact (eb 2 109 (by decide)).mpr y2
    · rintro ⟨x, y⟩
      have y0 := (eb 0 115 (by decide)).mp (y 0 (by omega))
      have y1 := (eb 1 117 (by decide)).mp (y 1 (by omega))
      have y2 := (eb 2 109 (by decide)).mp (y 2 (by omega))
      exact ⟨⟨(t_let _).mpr (by rw [show w a = 115 from y0]; omega), ⟨by omega, y0⟩, ⟨by omega, y1⟩, ⟨by omega, y2⟩⟩, Or.inr (by omega), Or.inl rfl, Or.inl rfl⟩
  · refine fin _ ?_ (p_wordG h5 (L 0 104 (by decide) (by decide) (by decide)) (L 1 111 (by decide) (by decide) (by decide)) (L 2 117 (by decide) (by decide) (by decide)) (L 3 114 (by decide) (by decide) (by decide)) (L 4 115 (by decide) (by decide) (by decide)))
    unfold t_hw
    rw [h81, h65, show xs_n 2 = 5 from rfl]
    constructor
    · rintro ⟨⟨-, ⟨x0, y0⟩, ⟨x1, y1⟩, ⟨x2, y2⟩⟩, z3, z4, z5⟩
      have z3 := z3.resolve_left (by decide)
      have z4 := z4.resolve_left (by decide)
      have z5 := z5.resolve_left (by decide)
      refine ⟨by omega, fun j hj => ?_⟩
      rcases (show j = 0 ∨ j = 1 ∨ j = 2 ∨ j = 3 ∨ j = 4 by omega) with rfl | rfl | rfl | rfl | rfl
      · exact (eb 0 104 (by decide)).mpr y0
      · exact (eb 1 111 (by decide)).mpr y1
      · exact (eb 2 117 (by decide)).mpr y2
      · exact (eb 3 114 (by decide)).mpr z3.2
      · exact (eb 4 115 (by decide)).mpr z4.2
    · rintro ⟨x, y⟩
      have y0 := (eb 0 104 (by decide)).mp (y 0 (by omega))
      have y1 := (eb 1 111 (by decide)).mp (y 1 (by omega))
      have y2 := (eb 2 117 (by decide)).mp (y 2 (by omega))
      have y3 := (eb 3 114 (by decide)).mp (y 3 (by omega))
      have y4 := (eb 4 115 (by decide)).mp (y 4 (by omega))
      exact ⟨⟨(t_let _).mpr (by rw [show w a = 104 from y0]; omega), ⟨by omega, y0⟩, ⟨by omega, y1⟩, ⟨by omega, y2⟩⟩, Or.inr ⟨by omega, y3⟩, Or.inr ⟨by omega, y4⟩, Or.inr (by omega)⟩
theorem p_word0 {M : xM} (c : Nat) (hp : z_ps M) (h8 : M 0 8 = nI 0) : p_hw c M = some (0, M) := by
  have : ∀ a1 a2 a3 a4 a5 : Int32, fX11_isWord M a1 a2 a3 a4 a5 = some (0, M) := fun a1 a2 a3 a4 a5 => by
    unfold fX11_isWord
    simp only [x_lb, h8]
    rw [if_neg (by decide)]
    simp
  unfold p_hw
  simp only [this, ite_self]
