/-! the law worked out -/
theorem w_join (C M : xM) (w : Int32) (hw : w = 10 ∨ w = 20 ∨ w = 30 ∨ w = 31 ∨ w = 32 ∨ w = 40 ∨ w = 41 ∨ w = 50 ∨ w = 51) (a b : Int32) : ∃ r, fX7_join C (-(r_it w 0)) a b = some (r, C) ∧ fX11_both M w a b = some (r, M) := by
  rcases hw with rfl | rfl | rfl | rfl | rfl | rfl | rfl | rfl | rfl
  · rw [show -(r_it 10 0) = 124 by decide]
    unfold fX7_join fX11_both
    by_cases h1 : a = 0
    · by_cases h2 : b = 0
      · exact ⟨0, by simp (decide := true) [x_l, fX10_oneIf, h1, h2, x_b_some], by simp (decide := true) [x_l, h1, h2]⟩
      · exact ⟨1, by simp (decide := true) [x_l, fX10_oneIf, h1, h2, x_b_some], by simp (decide := true) [x_l, h1, h2]⟩
    · exact ⟨1, by simp (decide := true) [x_l, fX10_oneIf, h1, x_b_some], by simp (decide := true) [x_l, h1]⟩
  · rw [show -(r_it 20 0) = 38 by decide]
    unfold fX7_join fX11_both
    by_cases h1 : a = 0
    · exact ⟨0, by simp (decide := true) [x_l, fX10_oneIf, h1, x_b_some], by simp (decide := true) [x_l, h1]⟩
    · by_cases h2 : b = 0
      · exact ⟨0, by simp (decide := true) [x_l, fX10_oneIf, h1, h2, x_b_some], by simp (decide := true) [x_l, h1, h2]⟩
      · exact ⟨1, by simp (decide := true) [x_l, fX10_oneIf, h1, h2, x_b_some], by simp (decide := true) [x_l, h1, h2]⟩
  · rw [show -(r_it 30 0) = 60 by decide]
    unfold fX7_join fX11_both
    by_cases h1 : b ≤ a
    · exact ⟨0, by simp (decide := true) only [x_l, fX10_oneIf, h1, x_b_some, if_true, if_false], by simp (decide := true) only [x_l, h1, if_true, if_false]⟩
    · exact ⟨1, by simp (decide := true) only [x_l, fX10_oneIf, h1, x_b_some, if_true, if_false], by simp (decide := true) only [x_l, h1, if_true, if_false]⟩
  · rw [show -(r_it 31 0) = 61 by decide]
    unfold fX7_join fX11_both
    by_cases h1 : a = b
    · exact ⟨1, by simp (decide := true) only [x_l, fX10_oneIf, h1, x_b_some, if_true, if_false], by simp (decide := true) only [x_l, h1, if_true, if_false]⟩
    · exact ⟨0, by simp (decide := true) only [x_l, fX10_oneIf, h1, x_b_some, if_true, if_false], by simp (decide := true) only [x_l, h1, if_true, if_false]⟩
  · rw [show -(r_it 32 0) = 62 by decide]
    unfold fX7_join fX11_both
    by_cases h1 : a ≤ b
    · exact ⟨0, by simp (decide := true) only [x_l, fX10_oneIf, h1, x_b_some, if_true, if_false], by simp (decide := true) only [x_l, h1, if_true, if_false]⟩
    · exact ⟨1, by simp (decide := true) only [x_l, fX10_oneIf, h1, x_b_some, if_true, if_false], by simp (decide := true) only [x_l, h1, if_true, if_false]⟩
  · rw [show -(r_it 40 0) = 43 by decide]
    exact ⟨a + b, by unfold fX7_join; simp (decide := true) only [if_true, if_false], by unfold fX11_both; simp (decide := true) only [if_true, if_false]⟩
  · rw [show -(r_it 41 0) = 45 by decide]
    exact ⟨a - b, by unfold fX7_join; simp (decide := true) only [if_true, if_false], by unfold fX11_both; simp (decide := true) only [if_true, if_false]⟩
  · rw [show -(r_it 50 0) = 42 by decide]
    exact ⟨a * b, by unfold fX7_join; simp (decide := true) only [if_true, if_false], by unfold fX11_both; simp (decide := true) only [if_true, if_false]⟩
  · rw [show -(r_it 51 0) = 47 by decide]
    unfold fX7_join fX11_both
    by_cases h1 : b = 0
    · exact ⟨0, by simp (decide := true) only [h1, if_true, if_false], by simp (decide := true) only [h1, if_true, if_false]⟩
    · exact ⟨a / b, by simp (decide := true) only [h1, if_true, if_false]; exact if_neg h1, by simp (decide := true) only [h1, if_true, if_false]; exact if_neg h1⟩
theorem r_dep.le {f : Nat → Int32} : ∀ {n d : Nat}, r_dep f n = some d → d ≤ n
  | 0, d, h => by
    have : (0 : Nat) = d := Option.some.inj h
    omega
  | n + 1, d, h => by
    rw [r_dep] at h
    cases q : r_dep f n with
    | none => rw [q] at h; exact absurd h (by simp)
    | some x =>
      have := r_dep.le q
      rw [q] at h
      simp only at h
      repeat' split at h
      all_goals (first | (have := Option.some.inj h; omega) | (exact absurd h (by simp)))
theorem r_dep.pre {f : Nat → Int32} : ∀ {n d : Nat}, r_dep f n = some d → ∀ k, k ≤ n → ∃ e, r_dep f k = some e
  | 0, d, h, k, hk => ⟨d, by rw [show k = 0 by omega]; exact h⟩
  | n + 1, d, h, k, hk => by
    by_cases e : k = n + 1
    · exact ⟨d, by rw [e]; exact h⟩
    · rw [r_dep] at h
      cases q : r_dep f n with
      | none => rw [q] at h; exact absurd h (by simp)
      | some x => exact r_dep.pre q k (by omega)
