theorem r_dep.cong {f g : Nat → Int32} : ∀ {n : Nat}, (∀ j, j < 2 * n → f j = g j) → r_dep f n = r_dep g n
  | 0, _ => rfl
  | n + 1, h => by
    rw [r_dep, r_dep, r_dep.cong (f := f) (g := g) (n := n) (fun j hj => h j (by omega)), h (2 * n) (by omega)]
theorem r_row.cong {L : Nat → Prop} {code : Nat → Int32} {e n : Nat} {f g : Nat → Int32} (h : r_row L code e f n) (hf : ∀ j, j < 2 * n → g j = f j) : r_row L code e g n := by
  obtain ⟨h1, h2⟩ := h
  refine ⟨fun k hk => ?_, (r_dep.cong hf).trans h2⟩
  rw [hf (2 * k) (by omega), hf (2 * k + 1) (by omega)]
  exact h1 k hk
