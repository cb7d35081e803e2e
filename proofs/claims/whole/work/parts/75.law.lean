/-! the tape: words and signs on it -/
def t_so (b : Nat) : Nat := if 97 ≤ b ∧ b ≤ 122 then 1 else if 48 ≤ b ∧ b ≤ 57 then 2 else 3
def t_sk (w : Nat → Nat) : Nat → Nat → Nat
  | 0, p => p
  | k + 1, p => if w p = 32 then t_sk w k (p + 1) else p
def t_en (w : Nat → Nat) (s : Nat) : Nat → Nat → Nat
  | 0, e => e
  | k + 1, e => if t_so (w e) = s then t_en w s k (e + 1) else e
def t_a (w : Nat → Nat) (n p : Nat) : Nat := t_sk w (n - p) p
def t_s (w : Nat → Nat) (n a : Nat) : Nat := if a = n then 0 else t_so (w a)
def t_b (w : Nat → Nat) (n a : Nat) : Nat := if a = n then a else if t_so (w a) = 3 then a + 1 else t_en w (t_so (w a)) (n - (a + 1)) (a + 1)
theorem t_so.le (b : Nat) : 1 ≤ t_so b ∧ t_so b ≤ 3 := by
  unfold t_so
  split
  · omega
  · split <;> omega
theorem t_sk.p {w : Nat → Nat} : ∀ (k p : Nat), p ≤ t_sk w k p ∧ t_sk w k p ≤ p + k ∧ (∀ i, p ≤ i → i < t_sk w k p → w i = 32) ∧ (t_sk w k p = p + k ∨ w (t_sk w k p) ≠ 32)
  | 0, p => ⟨Nat.le_refl _, Nat.le_refl _, fun i h1 h2 => by have : t_sk w 0 p = p := rfl; omega, Or.inl rfl⟩
  | k + 1, p => by
    obtain ⟨h1, h2, h3, h4⟩ := t_sk.p (w := w) k (p + 1)
    rw [t_sk]
    by_cases q : w p = 32
    · rw [if_pos q]
      refine ⟨by omega, by omega, fun i a b => ?_, ?_⟩
      · by_cases e : i = p
        · rw [e]; exact q
        · exact h3 i (by omega) b
      · rcases h4 with h4 | h4
        · exact Or.inl (by omega)
        · exact Or.inr h4
    · rw [if_neg q]
      exact ⟨by omega, by omega, fun i a b => by omega, Or.inr q⟩
theorem t_en.p {w : Nat → Nat} {s : Nat} : ∀ (k e : Nat), e ≤ t_en w s k e ∧ t_en w s k e ≤ e + k ∧ (∀ i, e ≤ i → i < t_en w s k e → t_so (w i) = s)
  | 0, e => ⟨Nat.le_refl _, Nat.le_refl _, fun i h1 h2 => by have : t_en w s 0 e = e := rfl; omega⟩
  | k + 1, e => by
    obtain ⟨h1, h2, h3⟩ := t_en.p (w := w) (s := s) k (e + 1)
    rw [t_en]
    by_cases q : t_so (w e) = s
    · rw [if_pos q]
      refine ⟨by omega, by omega, fun i a b => ?_⟩
      by_cases z : i = e
      · rw [z]; exact q
      · exact h3 i (by omega) b
    · rw [if_neg q]
      exact ⟨by omega, by omega, fun i a b => by omega⟩
theorem t_a.p {w : Nat → Nat} {n p : Nat} (h : p ≤ n) : p ≤ t_a w n p ∧ t_a w n p ≤ n ∧ (∀ i, p ≤ i → i < t_a w n p → w i = 32) ∧ (t_a w n p = n ∨ w (t_a w n p) ≠ 32) := by
  obtain ⟨h1, h2, h3, h4⟩ := t_sk.p (w := w) (n - p) p
  unfold t_a
  exact ⟨h1, by omega, h3, by rcases h4 with z | z; exact Or.inl (by omega); exact Or.inr z⟩
theorem t_b.p {w : Nat → Nat} {n a : Nat} (h : a < n) : a < t_b w n a ∧ t_b w n a ≤ n ∧ t_so (w (t_b w n a - 1)) = t_so (w a) ∧ (t_so (w a) = 3 → t_b w n a = a + 1) ∧ (∀ i, a ≤ i → i < t_b w n a → t_so (w i) = t_so (w a)) := by
  unfold t_b
  rw [if_neg (by omega)]
  by_cases q : t_so (w a) = 3
  · rw [if_pos q, Nat.add_sub_cancel]
    exact ⟨by omega, by omega, rfl, fun _ => rfl, fun i h1 h2 => by rw [show i = a by omega]⟩
  · rw [if_neg q]
    obtain ⟨h1, h2, h3⟩ := t_en.p (w := w) (s := t_so (w a)) (n - (a + 1)) (a + 1)
    have h4 : ∀ i, a ≤ i → i < t_en w (t_so (w a)) (n - (a + 1)) (a + 1) → t_so (w i) = t_so (w a) := fun i a1 a2 => by
      by_cases z : i = a
      · rw [z]
      · exact h3 i (by omega) a2
    exact ⟨by omega, by omega, h4 _ (by omega) (by omega), fun z => absurd z q, h4⟩
theorem c_isL (M : xM) {b : Nat} (hb : b ≤ 255) : fX9_isLetter M (nI b) = some ((if 97 ≤ b ∧ b ≤ 122 then 1 else 0), M) := by
  by_cases q : 97 ≤ b ∧ b ≤ 122
  · rw [if_pos q, w_isL q.1 q.2]
  · rw [if_neg q]
    refine w_isN ?_
    by_cases z : b < 97
    · exact Or.inl (nI_lt (b := 97) z (by decide))
    · exact Or.inr (nI_lt (a := 122) (by omega) (by omega))
theorem c_isD (M : xM) {b : Nat} (hb : b ≤ 255) : fX9_isDigit M (nI b) = some ((if 48 ≤ b ∧ b ≤ 57 then 1 else 0), M) := by
  unfold fX9_isDigit
  have l1 : (nI b < (48 : Int32)) = (b < 48) := l_ltn (b := 48) (by omega) (by decide)
  have l2 : ((57 : Int32) < nI b) = (57 < b) := l_ltn (a := 57) (by decide) (by omega)
  simp only [x_lb, l1, l2]
  by_cases q1 : b < 48
  · rw [if_pos q1, if_neg (by omega)]
  · rw [if_neg q1]
    by_cases q2 : 57 < b
    · rw [if_pos q2, if_neg (by omega)]
    · rw [if_neg q2, if_pos (by omega)]
theorem c_one (M : xM) {a b : Nat} (ha : a ≤ 255) (hb : b ≤ 255) : fX9_isOneWord M (nI a) (nI b) = some ((if t_so a ≠ 3 ∧ t_so b = t_so a then 1 else 0), M) := by
  unfold fX9_isOneWord
  simp only [x_lb, c_isL M ha, c_isL M hb, c_isD M ha, c_isD M hb, x_b_some, u_if0]
  unfold t_so
  by_cases q1 : 97 ≤ a ∧ a ≤ 122
  · by_cases q2 : 97 ≤ b ∧ b ≤ 122
    · simp [q1, q2]
    · have q3 : ¬ (48 ≤ a ∧ a ≤ 57) := by omega
      by_cases q4 : 48 ≤ b ∧ b ≤ 57
      · simp [q1, q2, q3, q4]
      · simp [q1, q2, q3, q4]
  · by_cases q3 : 48 ≤ a ∧ a ≤ 57
    · by_cases q4 : 48 ≤ b ∧ b ≤ 57
      · have q2 : ¬ (97 ≤ b ∧ b ≤ 122) := by omega
        simp [q1, q2, q3, q4]
      · by_cases q2 : 97 ≤ b ∧ b ≤ 122
        · simp [q1, q2, q3, q4]
        · simp [q1, q2, q3, q4]
    · simp [q1, q3]
theorem p_sort (M : xM) {b : Nat} (hb : b ≤ 255) : fX11_sortOf M (nI b) = some (nI (t_so b), M) := by
  unfold fX11_sortOf t_so
  have l1 : ((97 : Int32) ≤ nI b ∧ nI b ≤ 122) = (97 ≤ b ∧ b ≤ 122) := by rw [kn97_el (by omega), kn122_le (by omega)]
  have l2 : ((48 : Int32) ≤ nI b ∧ nI b ≤ 57) = (48 ≤ b ∧ b ≤ 57) := by
    rw [show ((48 : Int32) ≤ nI b) = (48 ≤ b) from l_len (a := 48) (by decide) (by omega), show (nI b ≤ (57 : Int32)) = (b ≤ 57) from l_len (b := 57) (by omega) (by decide)]
  simp only [p_in, x_b_some, u_if0, l1, l2]
  by_cases q1 : 97 ≤ b ∧ b ≤ 122
  · simp only [q1, and_self, not_true, if_false, if_true]; rfl
  · by_cases q2 : 48 ≤ b ∧ b ≤ 57
    · rw [if_pos q1, if_neg (not_not_intro q2), if_neg q1, if_pos q2]; rfl
    · rw [if_pos q1, if_pos q2, if_neg q1, if_neg q2]; rfl
/-- the tape on both sides -/
def z_tp (C M : xM) (n : Nat) (w : Nat → Nat) : Prop := (C 11 1 = nI n ∧ M 0 7 = nI n) ∧ n ≤ 120 ∧ (∀ i, i < n → C 14 i = nI (w i) ∧ M 3 i = nI (w i)) ∧ ∀ i, w i ≤ 255
theorem x_up_self {M : xM} {k j : Nat} {v : Int32} (h : M k j = v) : x_up M k j v = M := by
  funext a b
  rw [x_up_at]
  by_cases q : a = k
  · subst q
    rw [if_pos rfl]
    by_cases z : b = j
    · subst z
      rw [if_pos rfl, h]
    · rw [if_neg z]
  · rw [if_neg q]
theorem x_up_up (M : xM) (k j : Nat) (u v : Int32) : x_up (x_up M k j u) k j v = x_up M k j v := by
  funext a b
  simp only [x_up_at]
  by_cases q : a = k
  · by_cases z : b = j
    · simp [q, z]
    · simp [q, z]
  · simp [q]
theorem c_skL {n : Nat} {w : Nat → Nat} (hn : n ≤ 120) (hw : ∀ i, w i ≤ 255) (k : xM → Option xM) : ∀ (fu p : Nat) (C : xM), p ≤ n → n - p < fu → C 11 2 = nI p → C 11 1 = nI n → (∀ i, i < n → C 14 i = nI (w i)) → fX9_goOn_L8 k fu C = k (x_up C 11 2 (nI (t_a w n p))) := by
  intro fu
  induction fu with
  | zero => intro p C _ h; omega
  | succ fu ih =>
    intro p C hp hf h2 h1 hb
    rw [fX9_goOn_L8, h1, h2]
    unfold t_a
    by_cases q : p = n
    · subst q
      rw [if_pos (Int32.le_refl _), Nat.sub_self, t_sk, x_up_self h2]
    · rw [if_neg (u_lie (by omega) (by omega)), u_g (by omega) (by omega), u_c (by omega), hb p (by omega), show n - p = n - (p + 1) + 1 by omega, t_sk]
      have e32 : (nI (w p) = (32 : Int32)) = (w p = 32) := l_eqn (b := 32) (by have := hw p; omega) (by decide)
      by_cases z : w p = 32
      · rw [if_pos (by rw [e32]; exact z), if_pos z, x_lb, u_a1, ih (p + 1) _ (by omega) (by omega) (by simp (disch := omega) only [x_uo, x_uj, x_us]) (by simp (disch := omega) only [x_uo, x_uj, x_us]; exact h1) (fun i hi => by simp (disch := omega) only [x_uo, x_uj, x_us]; exact hb i hi), x_up_up]
        rfl
      · rw [if_neg (by rw [e32]; exact z), if_neg z, x_up_self h2]
theorem p_skL {n : Nat} {w : Nat → Nat} (hn : n ≤ 120) (hw : ∀ i, w i ≤ 255) (k : xM → Option xM) : ∀ (fu p : Nat) (M : xM), p ≤ n → n - p < fu → M 0 5 = nI p → M 0 7 = nI n → (∀ i, i < n → M 3 i = nI (w i)) → fX11_next_L21 k fu M = k (x_up M 0 5 (nI (t_a w n p))) := by
  intro fu
  induction fu with
  | zero => intro p C _ h; omega
  | succ fu ih =>
    intro p C hp hf h2 h1 hb
    rw [fX11_next_L21, h1, h2]
    unfold t_a
    by_cases q : p = n
    · subst q
      rw [if_pos (Int32.le_refl _), Nat.sub_self, t_sk, x_up_self h2]
    · rw [if_neg (u_lie (by omega) (by omega)), u_g (by omega) (by omega), u_c (by omega), hb p (by omega), show n - p = n - (p + 1) + 1 by omega, t_sk]
      have e32 : (nI (w p) = (32 : Int32)) = (w p = 32) := l_eqn (b := 32) (by have := hw p; omega) (by decide)
      by_cases z : w p = 32
      · rw [if_pos (by rw [e32]; exact z), if_pos z, x_lb, u_a1, ih (p + 1) _ (by omega) (by omega) (by simp (disch := omega) only [x_uo, x_uj, x_us]) (by simp (disch := omega) only [x_uo, x_uj, x_us]; exact h1) (fun i hi => by simp (disch := omega) only [x_uo, x_uj, x_us]; exact hb i hi), x_up_up]
        rfl
      · rw [if_neg (by rw [e32]; exact z), if_neg z, x_up_self h2]
theorem c_enL {n a : Nat} {w : Nat → Nat} (hn : n ≤ 120) (hw : ∀ i, w i ≤ 255) (ha : a < n) : ∀ (fu e : Nat) (C : xM), e ≤ n → n - e < fu → C 11 2 = nI a → C 11 3 = nI e → C 11 1 = nI n → (∀ i, i < n → C 14 i = nI (w i)) → fX9_goOn_L72 fu C = some (x_up C 11 3 (nI (if t_so (w a) = 3 then e else t_en w (t_so (w a)) (n - e) e))) := by
  intro fu
  induction fu with
  | zero => intro p C _ h; omega
  | succ fu ih =>
    intro e C hp hf h2 h3 h1 hb
    rw [fX9_goOn_L72, h1, h3]
    by_cases q : e = n
    · subst q
      rw [if_pos (Int32.le_refl _), Nat.sub_self, t_en, ite_self, x_up_self h3]
    · rw [if_neg (u_lie (by omega) (by omega)), h2, u_g (by omega) (by omega), u_g (by omega) (by omega), u_c (by omega), u_c (by omega), hb a ha, hb e (by omega), c_one C (hw a) (hw e), x_b_some, show n - e = n - (e + 1) + 1 by omega, t_en]
      by_cases z : t_so (w a) = 3
      · rw [if_neg (show ¬ (t_so (w a) ≠ 3 ∧ t_so (w e) = t_so (w a)) from fun y => y.1 z), if_pos rfl, if_pos z, x_up_self h3]
      · by_cases y : t_so (w e) = t_so (w a)
        · rw [if_pos (show t_so (w a) ≠ 3 ∧ t_so (w e) = t_so (w a) from ⟨z, y⟩), if_neg (by decide : ¬ (1 : Int32) = 0), if_neg z, if_pos y, x_lb, h3, u_a1, ih (e + 1) _ (by omega) (by omega) (by simp (disch := omega) only [x_uo, x_uj, x_us]; exact h2) (by simp (disch := omega) only [x_uo, x_uj, x_us]) (by simp (disch := omega) only [x_uo, x_uj, x_us]; exact h1) (fun i hi => by simp (disch := omega) only [x_uo, x_uj, x_us]; exact hb i hi), if_neg z, x_up_up]
        · rw [if_neg (show ¬ (t_so (w a) ≠ 3 ∧ t_so (w e) = t_so (w a)) from fun x => y x.2), if_pos rfl, if_neg z, if_neg y, x_up_self h3]
theorem p_enL {n s : Nat} {w : Nat → Nat} (hn : n ≤ 120) (hw : ∀ i, w i ≤ 255) (hs : 1 ≤ s) (hs3 : s ≤ 3) (k : xM → Option xM) : ∀ (fu e : Nat) (M : xM), e ≤ n → n - e < fu → M 0 8 = nI s → M 0 6 = nI e → M 0 7 = nI n → (∀ i, i < n → M 3 i = nI (w i)) → fX11_next_L144 k fu M = k (x_up M 0 6 (nI (if s = 3 then e else t_en w s (n - e) e))) := by
  intro fu
  induction fu with
  | zero => intro p C _ h; omega
  | succ fu ih =>
    intro e M hp hf h8 h6 h7 hb
    rw [fX11_next_L144, h8, h6, h7]
    by_cases z : s = 3
    · rw [if_pos (by rw [z]; rfl), if_pos z, x_up_self h6]
    · rw [if_neg (by rw [kn3_eq (by omega)]; exact z), if_neg z]
      by_cases q : e = n
      · subst q
        rw [if_pos (Int32.le_refl _), Nat.sub_self, t_en, x_up_self h6]
      · have := t_so.le (w e)
        rw [if_neg (u_lie (by omega) (by omega)), if_neg (by rw [kn0_eq (by omega)]; omega), u_g (by omega) (by omega), u_c (by omega), hb e (by omega), p_sort M (hw e), x_b_some, h8, show n - e = n - (e + 1) + 1 by omega, t_en]
        have ee : (nI (t_so (w e)) = nI s) = (t_so (w e) = s) := l_eqn (by omega) (by omega)
        by_cases y : t_so (w e) = s
        · rw [if_pos (by rw [ee]; exact y), if_pos y, x_lb, h6, u_a1, ih (e + 1) _ (by omega) (by omega) (by simp (disch := omega) only [x_uo, x_uj, x_us]; exact h8) (by simp (disch := omega) only [x_uo, x_uj, x_us]) (by simp (disch := omega) only [x_uo, x_uj, x_us]; exact h7) (fun i hi => by simp (disch := omega) only [x_uo, x_uj, x_us]; exact hb i hi), if_neg z, x_up_up]
        · rw [if_neg (by rw [ee]; exact y), if_neg y, x_up_self h6]
theorem c_goOn {C : xM} {n p : Nat} {w : Nat → Nat} (hn : n ≤ 120) (hw : ∀ i, w i ≤ 255) (hp : p ≤ n) (h3 : C 11 3 = nI p) (h1 : C 11 1 = nI n) (hb : ∀ i, i < n → C 14 i = nI (w i)) : fX9_goOn C = some (x_up (x_up C 11 2 (nI (t_a w n p))) 11 3 (nI (t_b w n (t_a w n p)))) := by
  obtain ⟨a1, a2, a3, a4⟩ := t_a.p (w := w) hp
  unfold fX9_goOn
  rw [h3, x_lb, x_lb, c_skL hn hw _ x_FU p _ hp (by rw [x_FU_eq]; omega) (by simp (disch := omega) only [x_uo, x_uj, x_us]) (by simp (disch := omega) only [x_uo, x_uj, x_us]; exact h1) (fun i hi => by simp (disch := omega) only [x_uo, x_uj, x_us]; exact hb i hi), x_up_up]
  generalize hA : t_a w n p = a at a1 a2 a3 a4 ⊢
  simp (disch := omega) only [x_lb, x_uo, x_uj, x_us]
  have e1 : fX9_isAtEnd (x_up (x_up C 11 2 (nI a)) 11 3 (nI a)) = some ((if a = n then 1 else 0), x_up (x_up C 11 2 (nI a)) 11 3 (nI a)) := by
    unfold fX9_isAtEnd
    simp (disch := omega) only [x_uo, x_uj, x_us, h1, l_ltn]
    by_cases q : a = n
    · rw [if_neg (by omega), if_pos q]
    · rw [if_pos (by omega), if_neg q]
  rw [e1, x_b_some]
  by_cases q : a = n
  · rw [if_pos q, if_neg (by decide : ¬ (1 : Int32) = 0)]
    unfold t_b
    rw [if_pos q]
  · rw [if_neg q, if_pos rfl]
    simp (disch := omega) only [x_uo, x_uj, x_us, u_a1]
    rw [x_up_up, c_enL (a := a) hn hw (by omega) x_FU (a + 1) _ (by omega) (by rw [x_FU_eq]; omega) (by simp (disch := omega) only [x_uo, x_uj, x_us]) (by simp (disch := omega) only [x_uo, x_uj, x_us]) (by simp (disch := omega) only [x_uo, x_uj, x_us]; exact h1) (fun i hi => by simp (disch := omega) only [x_uo, x_uj, x_us]; exact hb i hi), x_up_up]
    unfold t_b
    rw [if_neg q]
theorem p_wrong {M : xM} (h : M 0 10 = 0) : fX11_wrong M = some (x_up (x_up M 0 9 (M 0 5)) 0 10 1) := by
  unfold fX11_wrong
  simp only [x_lb, h, if_true]
/-! next, in steps -/
noncomputable def n_202 (z : Int32) (M : xM) : Option xM := if z = 0 then some M else if M 0 8 = (1 : Int32) then (x_v (fX11_wrong M) fun N => some N) else if M 0 8 = (2 : Int32) then (x_v (fX11_wrong M) fun N => some N) else some M
noncomputable def n_124 (z : Int32) (M : xM) (t : Int32) : Option xM := if x_up M 0 8 t 0 8 = 0 then fX11_next_L144 (n_202 z) x_FU (x_up M 0 8 t) else fX11_next_L144 (n_202 z) x_FU (x_up (x_up M 0 8 t) 0 6 (x_up M 0 8 t 0 6 + 1))
noncomputable def n_95 (z : Int32) (M : xM) : Option xM := if M 0 5 = M 0 7 then n_124 z M 0 else x_g (M 0 5) 120 (x_b (fX11_sortOf M (M 3 (M 0 5).toNatClampNeg)) fun v N => n_124 z N v)
noncomputable def n_59 (p : Int32) (M : xM) : Option xM := if x_up M 0 6 (M 0 5) 0 5 = p then (if x_up M 0 6 (M 0 5) 0 8 = 0 then n_95 0 (x_up M 0 6 (M 0 5)) else if x_up M 0 6 (M 0 5) 0 8 = (3 : Int32) then n_95 0 (x_up M 0 6 (M 0 5)) else n_95 1 (x_up M 0 6 (M 0 5))) else n_95 0 (x_up M 0 6 (M 0 5))
theorem n_eq (M : xM) : fX11_next M = if M 0 10 = 0 then fX11_next_L21 (n_59 (M 0 6)) x_FU (x_up M 0 5 (M 0 6)) else some M := by
  unfold fX11_next
  rfl
theorem n_124p {M : xM} {n a s : Nat} {w : Nat → Nat} (z : Int32) (hn : n ≤ 120) (hw : ∀ i, w i ≤ 255) (ha : a ≤ n) (h5 : M 0 5 = nI a) (h6 : M 0 6 = nI a) (h7 : M 0 7 = nI n) (hb : ∀ i, i < n → M 3 i = nI (w i)) (hs : s = t_s w n a) : n_124 z M (nI s) = n_202 z (x_up (x_up M 0 8 (nI s)) 0 6 (nI (t_b w n a))) := by
  have hso := t_so.le (w a)
  unfold n_124
  by_cases q : a = n
  · have s0 : s = 0 := by rw [hs]; unfold t_s; rw [if_pos q]
    have eb : t_b w n a = a := by unfold t_b; rw [if_pos q]
    subst s0
    obtain ⟨f, ef⟩ : ∃ f, x_FU = f + 1 := ⟨x_FU - 1, by rw [x_FU_eq]⟩
    rw [if_pos (by simp (disch := omega) only [x_uo, x_uj, x_us]; rfl), ef, fX11_next_L144, eb, x_up_self (show x_up M 0 8 (nI 0) 0 6 = nI a by simp (disch := omega) only [x_uo, x_uj, x_us]; exact h6)]
    simp (disch := omega) only [x_uo, x_uj, x_us, h6, h7]
    rw [if_neg (by decide), if_pos (by rw [q]; exact Int32.le_refl _)]
  · have s1 : s = t_so (w a) := by rw [hs]; unfold t_s; rw [if_neg q]
    rw [if_neg (by simp (disch := omega) only [x_uo, x_uj, x_us]; rw [kn0_eq (by omega)]; omega)]
    simp (disch := omega) only [x_uo, x_uj, x_us, h6, u_a1]
    rw [p_enL (s := s) hn hw (by omega) (by omega) _ x_FU (a + 1) _ (by omega) (by rw [x_FU_eq]; omega) (by simp (disch := omega) only [x_uo, x_uj, x_us]) (by simp (disch := omega) only [x_uo, x_uj, x_us]) (by simp (disch := omega) only [x_uo, x_uj, x_us]; exact h7) (fun i hi => by simp (disch := omega) only [x_uo, x_uj, x_us]; exact hb i hi), x_up_up]
    unfold t_b
    rw [if_neg q, s1]
theorem n_95p {M : xM} {n a : Nat} {w : Nat → Nat} (z : Int32) (hn : n ≤ 120) (hw : ∀ i, w i ≤ 255) (ha : a ≤ n) (h5 : M 0 5 = nI a) (h6 : M 0 6 = nI a) (h7 : M 0 7 = nI n) (hb : ∀ i, i < n → M 3 i = nI (w i)) : n_95 z M = n_202 z (x_up (x_up M 0 8 (nI (t_s w n a))) 0 6 (nI (t_b w n a))) := by
  unfold n_95
  rw [h5, h7]
  by_cases q : a = n
  · have e0 : t_s w n a = 0 := by unfold t_s; rw [if_pos q]
    rw [if_pos (by rw [q]), e0]
    exact n_124p z hn hw ha h5 h6 h7 hb e0.symm
  · have e0 : t_s w n a = t_so (w a) := by unfold t_s; rw [if_neg q]
    rw [if_neg (by rw [l_eqn (by omega) (by omega)]; exact q), u_g (by omega) (by omega), u_c (by omega), hb a (by omega), p_sort M (hw a), x_b_some, e0]
    exact n_124p z hn hw ha h5 h6 h7 hb e0.symm
theorem p_next {M : xM} {n p s0 : Nat} {w : Nat → Nat} (hn : n ≤ 120) (hw : ∀ i, w i ≤ 255) (hp : p ≤ n) (hb0 : M 0 10 = 0) (h6 : M 0 6 = nI p) (h7 : M 0 7 = nI n) (h8 : M 0 8 = nI s0) (hs0 : s0 ≤ 3) (hb : ∀ i, i < n → M 3 i = nI (w i)) : ∃ M', fX11_next M = some M' ∧ (∀ x y, ¬ (x = 0 ∧ (y = 5 ∨ y = 6 ∨ y = 8 ∨ y = 9 ∨ y = 10)) → M' x y = M x y) ∧ M' 0 5 = nI (t_a w n p) ∧ M' 0 6 = nI (t_b w n (t_a w n p)) ∧ M' 0 8 = nI (t_s w n (t_a w n p)) ∧ ((t_a w n p = p ∧ (s0 = 1 ∨ s0 = 2) ∧ (t_s w n (t_a w n p) = 1 ∨ t_s w n (t_a w n p) = 2)) ∧ M' 0 10 = 1 ∧ M' 0 9 = nI (t_a w n p) ∨ ¬ (t_a w n p = p ∧ (s0 = 1 ∨ s0 = 2) ∧ (t_s w n (t_a w n p) = 1 ∨ t_s w n (t_a w n p) = 2)) ∧ M' 0 10 = 0) := by
  obtain ⟨a1, a2, a3, a4⟩ := t_a.p (w := w) hp
  rw [n_eq, if_pos hb0, h6, p_skL hn hw _ x_FU p _ hp (by rw [x_FU_eq]; omega) (by simp (disch := omega) only [x_uo, x_uj, x_us]) (by simp (disch := omega) only [x_uo, x_uj, x_us]; exact h7) (fun i hi => by simp (disch := omega) only [x_uo, x_uj, x_us]; exact hb i hi), x_up_up]
  generalize hA : t_a w n p = a at a1 a2 a3 a4 ⊢
  have es : t_s w n a ≤ 3 := by unfold t_s; have := t_so.le (w a); split <;> omega
  unfold n_59
  simp (disch := omega) only [x_uo, x_uj, x_us, h8]
  have go : ∀ z : Int32, n_95 z (x_up (x_up M 0 5 (nI a)) 0 6 (nI a)) = n_202 z (x_up (x_up (x_up (x_up M 0 5 (nI a)) 0 6 (nI a)) 0 8 (nI (t_s w n a))) 0 6 (nI (t_b w n a))) := fun z => n_95p z hn hw a2 (by simp (disch := omega) only [x_uo, x_uj, x_us]) (by simp (disch := omega) only [x_uo, x_uj, x_us]) (by simp (disch := omega) only [x_uo, x_uj, x_us]; exact h7) (fun i hi => by simp (disch := omega) only [x_uo, x_uj, x_us]; exact hb i hi)
  have fr : ∀ x y, ¬ (x = 0 ∧ (y = 5 ∨ y = 6 ∨ y = 8 ∨ y = 9 ∨ y = 10)) → x_up (x_up (x_up (x_up M 0 5 (nI a)) 0 6 (nI a)) 0 8 (nI (t_s w n a))) 0 6 (nI (t_b w n a)) x y = M x y := fun x y h => by
    by_cases q : x = 0
    · subst q; simp (disch := omega) only [x_uo, x_uj, x_us]
    · simp (disch := omega) only [x_uo, x_uj, x_us]
  have b5 : x_up (x_up (x_up (x_up M 0 5 (nI a)) 0 6 (nI a)) 0 8 (nI (t_s w n a))) 0 6 (nI (t_b w n a)) 0 5 = nI a := by simp (disch := omega) only [x_uo, x_uj, x_us]
  have b6 : x_up (x_up (x_up (x_up M 0 5 (nI a)) 0 6 (nI a)) 0 8 (nI (t_s w n a))) 0 6 (nI (t_b w n a)) 0 6 = nI (t_b w n a) := by simp (disch := omega) only [x_uo, x_uj, x_us]
  have b8 : x_up (x_up (x_up (x_up M 0 5 (nI a)) 0 6 (nI a)) 0 8 (nI (t_s w n a))) 0 6 (nI (t_b w n a)) 0 8 = nI (t_s w n a) := by simp (disch := omega) only [x_uo, x_uj, x_us]
  have b10 : x_up (x_up (x_up (x_up M 0 5 (nI a)) 0 6 (nI a)) 0 8 (nI (t_s w n a))) 0 6 (nI (t_b w n a)) 0 10 = 0 := by simp (disch := omega) only [x_uo, x_uj, x_us]; exact hb0
  rw [go, go]
  generalize x_up (x_up (x_up (x_up M 0 5 (nI a)) 0 6 (nI a)) 0 8 (nI (t_s w n a))) 0 6 (nI (t_b w n a)) = N at fr b5 b6 b8 b10 ⊢
  have no : ¬ (a = p ∧ (s0 = 1 ∨ s0 = 2) ∧ (t_s w n a = 1 ∨ t_s w n a = 2)) → ∃ M', some N = some M' ∧ (∀ x y, ¬ (x = 0 ∧ (y = 5 ∨ y = 6 ∨ y = 8 ∨ y = 9 ∨ y = 10)) → M' x y = M x y) ∧ M' 0 5 = nI a ∧ M' 0 6 = nI (t_b w n a) ∧ M' 0 8 = nI (t_s w n a) ∧ ((a = p ∧ (s0 = 1 ∨ s0 = 2) ∧ (t_s w n a = 1 ∨ t_s w n a = 2)) ∧ M' 0 10 = 1 ∧ M' 0 9 = nI a ∨ ¬ (a = p ∧ (s0 = 1 ∨ s0 = 2) ∧ (t_s w n a = 1 ∨ t_s w n a = 2)) ∧ M' 0 10 = 0) := fun z => ⟨N, rfl, fr, b5, b6, b8, Or.inr ⟨z, b10⟩⟩
  have n0 : n_202 0 N = some N := if_pos rfl
  by_cases q : a = p
  · rw [if_pos (by rw [q])]
    by_cases q0 : s0 = 0
    · rw [if_pos (by rw [q0]; rfl), n0]
      exact no (fun z => by omega)
    · rw [if_neg (by rw [kn0_eq (by omega)]; exact q0)]
      by_cases q3 : s0 = 3
      · rw [if_pos (by rw [q3]; rfl), n0]
        exact no (fun z => by omega)
      · rw [if_neg (by rw [kn3_eq (by omega)]; exact q3)]
        unfold n_202
        rw [if_neg (by decide), b8]
        have yes : (t_s w n a = 1 ∨ t_s w n a = 2) → ∃ M', (x_v (fX11_wrong N) fun N => some N) = some M' ∧ (∀ x y, ¬ (x = 0 ∧ (y = 5 ∨ y = 6 ∨ y = 8 ∨ y = 9 ∨ y = 10)) → M' x y = M x y) ∧ M' 0 5 = nI a ∧ M' 0 6 = nI (t_b w n a) ∧ M' 0 8 = nI (t_s w n a) ∧ ((a = p ∧ (s0 = 1 ∨ s0 = 2) ∧ (t_s w n a = 1 ∨ t_s w n a = 2)) ∧ M' 0 10 = 1 ∧ M' 0 9 = nI a ∨ ¬ (a = p ∧ (s0 = 1 ∨ s0 = 2) ∧ (t_s w n a = 1 ∨ t_s w n a = 2)) ∧ M' 0 10 = 0) := fun z => by
          rw [p_wrong b10, x_v_some]
          refine ⟨_, rfl, fun x y h => ?_, by simp (disch := omega) only [x_uo, x_uj, x_us]; exact b5, by simp (disch := omega) only [x_uo, x_uj, x_us]; exact b6, by simp (disch := omega) only [x_uo, x_uj, x_us]; exact b8, Or.inl ⟨⟨q, by omega, z⟩, by simp (disch := omega) only [x_uo, x_uj, x_us], by simp (disch := omega) only [x_uo, x_uj, x_us]; exact b5⟩⟩
          rw [← fr x y h]
          by_cases q : x = 0
          · subst q; simp (disch := omega) only [x_uo, x_uj, x_us]
          · simp (disch := omega) only [x_uo, x_uj, x_us]
        by_cases z1 : t_s w n a = 1
        · rw [if_pos (by rw [z1]; rfl)]
          exact yes (Or.inl z1)
        · rw [if_neg (by rw [kn1_eq (by omega)]; exact z1)]
          by_cases z2 : t_s w n a = 2
          · rw [if_pos (by rw [z2]; rfl)]
            exact yes (Or.inr z2)
          · rw [if_neg (by rw [kn2_eq (by omega)]; exact z2)]
            exact no (fun z => by omega)
  · rw [if_neg (by rw [l_eqn (by omega) (by omega)]; exact q), n0]
    exact no (fun z => q z.1)
theorem c_end {C : xM} {n a : Nat} (h1 : C 11 1 = nI n) (h2 : C 11 2 = nI a) (hn : n ≤ 120) (ha : a ≤ n) : fX9_isAtEnd C = some ((if a = n then 1 else 0), C) := by
  unfold fX9_isAtEnd
  rw [h1, h2]
  simp only [l_ltn (show a < 2 ^ 31 by omega) (show n < 2 ^ 31 by omega)]
  by_cases q : a = n
  · rw [if_neg (by omega), if_pos q]
  · rw [if_pos (by omega), if_neg q]
theorem c_first {C : xM} {n a : Nat} {w : Nat → Nat} (h1 : C 11 1 = nI n) (h2 : C 11 2 = nI a) (hn : n ≤ 120) (ha : a < n) (hb : ∀ i, i < n → C 14 i = nI (w i)) : fX9_first C = some (nI (w a), C) := by
  unfold fX9_first
  rw [c_end h1 h2 hn (by omega), x_b_some, if_neg (show ¬ a = n by omega), if_pos rfl, h2, u_g (by omega) (by omega), u_c (by omega), hb a ha]
theorem c_isW {C : xM} {n a : Nat} {w : Nat → Nat} (h1 : C 11 1 = nI n) (h2 : C 11 2 = nI a) (hn : n ≤ 120) (ha : a < n) (hw : ∀ i, w i ≤ 255) (hb : ∀ i, i < n → C 14 i = nI (w i)) : fX9_isWord C = some ((if t_so (w a) = 3 then 0 else 1), C) := by
  unfold fX9_isWord
  simp only [c_first h1 h2 hn ha hb, x_b_some, c_isL C (hw a), c_isD C (hw a), x_lb, u_if0]
  unfold t_so
  by_cases q1 : 97 ≤ w a ∧ w a ≤ 122
  · simp [q1]
  · by_cases q2 : 48 ≤ w a ∧ w a ≤ 57
    · simp [q1, q2]
    · simp [q1, q2]
theorem c_glue {C : xM} {n a : Nat} {w : Nat → Nat} (h1 : C 11 1 = nI n) (h2 : C 11 2 = nI a) (hn : n ≤ 120) (ha : a < n) (hw : ∀ i, w i ≤ 255) (hb : ∀ i, i < n → C 14 i = nI (w i)) : fX9_isGlued C = some ((if a ≠ 0 ∧ t_so (w a) ≠ 3 ∧ t_so (w (a - 1)) ≠ 3 then 1 else 0), C) := by
  unfold fX9_isGlued
  rw [h2]
  by_cases q : a = 0
  · rw [if_pos (by rw [q]; rfl), if_neg (fun z => z.1 q)]
  · have e1 : nI a - 1 = nI (a - 1) := by
      obtain ⟨a', rfl⟩ : ∃ a', a = a' + 1 := ⟨a - 1, by omega⟩
      exact u_m1 a'
    rw [if_neg (by rw [kn0_eq (by omega)]; exact q), c_isW h1 h2 hn ha hw hb, x_b_some]
    by_cases q3 : t_so (w a) = 3
    · rw [if_pos q3, if_pos rfl, if_neg (fun z => z.2.1 q3)]
    · rw [if_neg q3, if_neg (by decide : ¬ (1 : Int32) = 0), h2, e1, u_g (by omega) (by omega), u_c (by omega), hb (a - 1) (by omega)]
      simp only [x_lb, c_isL C (hw (a - 1)), c_isD C (hw (a - 1)), x_b_some, u_if0]
      have e : (a ≠ 0 ∧ t_so (w a) ≠ 3 ∧ t_so (w (a - 1)) ≠ 3) = (t_so (w (a - 1)) ≠ 3) := by simp [q, q3]
      simp only [e]
      unfold t_so
      by_cases q1 : 97 ≤ w (a - 1) ∧ w (a - 1) ≤ 122
      · simp [q1]
      · by_cases q2 : 48 ≤ w (a - 1) ∧ w (a - 1) ≤ 57
        · simp [q1, q2]
        · simp [q1, q2]
/-- what was read last: the place behind it and its sort -/
def t_pt (w : Nat → Nat) (p s0 : Nat) : Prop := (p = 0 ∧ s0 = 0) ∨ (0 < p ∧ s0 = t_so (w (p - 1)))
theorem t_glue {w : Nat → Nat} {n p s0 : Nat} (hp : p ≤ n) (h : t_pt w p s0) (ha : t_a w n p < n) : (t_a w n p ≠ 0 ∧ t_so (w (t_a w n p)) ≠ 3 ∧ t_so (w (t_a w n p - 1)) ≠ 3) ↔ (t_a w n p = p ∧ (s0 = 1 ∨ s0 = 2) ∧ (t_s w n (t_a w n p) = 1 ∨ t_s w n (t_a w n p) = 2)) := by
  obtain ⟨a1, a2, a3, a4⟩ := t_a.p (w := w) hp
  generalize t_a w n p = a at *
  have e : t_s w n a = t_so (w a) := by unfold t_s; rw [if_neg (by omega)]
  have h1 := t_so.le (w a)
  have h2 := t_so.le (w (a - 1))
  rw [e]
  constructor
  · rintro ⟨b1, b2, b3⟩
    have : a = p := by
      rcases Nat.lt_or_ge p a with q | q
      · rw [a3 (a - 1) (by omega) (by omega)] at b3
        exact absurd (by decide) b3
      · omega
    subst this
    rcases h with ⟨h, -⟩ | ⟨-, h⟩
    · omega
    · exact ⟨rfl, by omega, by omega⟩
  · rintro ⟨rfl, b2, b3⟩
    rcases h with ⟨-, h⟩ | ⟨h0, h⟩
    · omega
    · exact ⟨by omega, by omega, by omega⟩
