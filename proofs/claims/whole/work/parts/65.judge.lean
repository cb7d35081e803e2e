/-! judge: the days of all open deeds, joined -/
theorem c_openOf (M : xM) (k : Nat) (a : Int32) : fX0_isOpenOf M k a = some ((if M k 1 = a ∧ M k 4 = -1 then 1 else 0), M) := by
  unfold fX0_isOpenOf
  simp only [x_l, c_judged, x_b_some]
  by_cases h1 : M k 1 = a
  · by_cases h2 : M k 4 = -1
    · rw [if_pos h1, if_pos h2, if_pos rfl, if_pos ⟨h1, h2⟩]
    · rw [if_pos h1, if_neg h2, if_neg (by decide : ¬ (1 : Int32) = 0), if_neg (fun z => h2 z.2)]
  · rw [if_neg h1, if_neg (fun z => h1 z.1)]
def j_G (s : Nat → Int32) (p : Nat) (V : Nat → Nat) : Nat → Nat
  | 0 => 0
  | i + 1 => if s (642 + 5 * i + 1) = nI p ∧ s (642 + 5 * i + 4) = -1 then (if j_G s p V i < V i then V i else j_G s p V i) else j_G s p V i
def j_S (s : Nat → Int32) (p : Nat) (V : Nat → Nat) (J : Nat) : Nat → Nat
  | 0 => 0
  | i + 1 => if s (642 + 5 * i + 1) = nI p ∧ s (642 + 5 * i + 4) = -1 then j_S s p V J i + V i * J / 100 else j_S s p V J i
def j_A (s : Nat → Int32) (p : Nat) (V : Nat → Nat) : Nat → Option Nat
  | 0 => none
  | i + 1 => if s (642 + 5 * i + 1) = nI p ∧ s (642 + 5 * i + 4) = -1 then (match j_A s p V i with
      | none => some i
      | some a => if j_G s p V i < V i then some i else some a) else j_A s p V i
def j_X (s : Nat → Int32) (p : Nat) (V : Nat → Nat) (J a : Nat) : Nat → Nat
  | 0 => 0
  | i + 1 => if s (642 + 5 * i + 1) = nI p ∧ s (642 + 5 * i + 4) = -1 ∧ i ≠ a then j_X s p V J a i + V i * J / 100 else j_X s p V J a i
theorem j_A.none {s : Nat → Int32} {p : Nat} {V : Nat → Nat} : ∀ {i : Nat}, j_A s p V i = none → j_G s p V i = 0 ∧ ∀ d, d < i → ¬ (s (642 + 5 * d + 1) = nI p ∧ s (642 + 5 * d + 4) = -1)
  | 0, _ => ⟨rfl, fun d hd => by omega⟩
  | i + 1, h => by
    rw [j_A] at h
    by_cases q : s (642 + 5 * i + 1) = nI p ∧ s (642 + 5 * i + 4) = -1
    · rw [if_pos q] at h
      cases e : j_A s p V i with
      | none => rw [e] at h; cases h
      | some a =>
        rw [e] at h
        by_cases z : j_G s p V i < V i
        · simp only [if_pos z] at h; cases h
        · simp only [if_neg z] at h; cases h
    · rw [if_neg q] at h
      obtain ⟨h1, h2⟩ := j_A.none h
      refine ⟨by rw [j_G, if_neg q]; exact h1, fun d hd => ?_⟩
      by_cases e : d = i
      · rw [e]; exact q
      · exact h2 d (by omega)
theorem j_A.some {s : Nat → Int32} {p : Nat} {V : Nat → Nat} : ∀ {i a : Nat}, j_A s p V i = some a → a < i ∧ (s (642 + 5 * a + 1) = nI p ∧ s (642 + 5 * a + 4) = -1) ∧ j_G s p V i = V a
  | 0, a, h => by cases h
  | i + 1, a, h => by
    rw [j_A] at h
    by_cases q : s (642 + 5 * i + 1) = nI p ∧ s (642 + 5 * i + 4) = -1
    · rw [if_pos q] at h
      cases e : j_A s p V i with
      | none =>
        rw [e] at h
        obtain rfl : i = a := Option.some.inj h
        refine ⟨by omega, q, ?_⟩
        rw [j_G, if_pos q, (j_A.none e).1]
        by_cases z : 0 < V i
        · rw [if_pos z]
        · rw [if_neg z]; omega
      | some b =>
        rw [e] at h
        obtain ⟨h1, h2, h3⟩ := j_A.some e
        by_cases z : j_G s p V i < V i
        · simp only [if_pos z] at h
          obtain rfl : i = a := Option.some.inj h
          exact ⟨by omega, q, by rw [j_G, if_pos q, if_pos z]⟩
        · simp only [if_neg z] at h
          obtain rfl : b = a := Option.some.inj h
          exact ⟨by omega, h2, by rw [j_G, if_pos q, if_neg z]; exact h3⟩
    · rw [if_neg q] at h
      obtain ⟨h1, h2, h3⟩ := j_A.some h
      exact ⟨by omega, h2, by rw [j_G, if_neg q]; exact h3⟩
theorem j_X.eq {s : Nat → Int32} {p : Nat} {V : Nat → Nat} {J a : Nat} (ha : s (642 + 5 * a + 1) = nI p ∧ s (642 + 5 * a + 4) = -1) : ∀ i, j_X s p V J a i + (if a < i then V a * J / 100 else 0) = j_S s p V J i
  | 0 => rfl
  | i + 1 => by
    have ih := j_X.eq ha (V := V) (J := J) i
    rw [j_X, j_S]
    by_cases q : s (642 + 5 * i + 1) = nI p ∧ s (642 + 5 * i + 4) = -1
    · rw [if_pos q]
      by_cases e : i = a
      · subst e
        rw [if_neg (fun z => z.2.2 rfl), if_pos (by omega)]
        rw [if_neg (by omega)] at ih
        omega
      · rw [if_pos ⟨q.1, q.2, e⟩]
        by_cases z : a < i
        · rw [if_pos z] at ih; rw [if_pos (by omega)]; omega
        · rw [if_neg z] at ih; rw [if_neg (by omega)]; omega
    · rw [if_neg q, if_neg (fun z => q ⟨z.1, z.2.1⟩)]
      have : i ≠ a := fun e => q (by rw [e]; exact ha)
      by_cases z : a < i
      · rw [if_pos z] at ih; rw [if_pos (by omega)]; omega
      · rw [if_neg z] at ih; rw [if_neg (by omega)]; omega
theorem j_sh {v J : Nat} (hv : v ≤ 999) (hJ : J ≤ 100) : v * J / 100 ≤ 999 := by
  have := Nat.mul_le_mul hv hJ
  omega
theorem j_G.le {s : Nat → Int32} {p : Nat} {V : Nat → Nat} (hV : ∀ d, V d ≤ 999) : ∀ i, j_G s p V i ≤ 999
  | 0 => by show 0 ≤ 999; omega
  | i + 1 => by
    have := j_G.le (s := s) (p := p) hV i
    have := hV i
    rw [j_G]
    repeat' split
    all_goals omega
theorem j_S.le {s : Nat → Int32} {p J : Nat} {V : Nat → Nat} (hV : ∀ d, V d ≤ 999) (hJ : J ≤ 100) : ∀ i, j_S s p V J i ≤ 999 * i
  | 0 => by show 0 ≤ _; omega
  | i + 1 => by
    have := j_S.le (s := s) (p := p) hV hJ i
    have := j_sh (hV i) hJ
    rw [j_S]
    split <;> omega
theorem j_X.le {s : Nat → Int32} {p J a : Nat} {V : Nat → Nat} (hV : ∀ d, V d ≤ 999) (hJ : J ≤ 100) : ∀ i, j_X s p V J a i ≤ 999 * i
  | 0 => by show 0 ≤ _; omega
  | i + 1 => by
    have := j_X.le (s := s) (p := p) (a := a) hV hJ i
    have := j_sh (hV i) hJ
    rw [j_X]
    split <;> omega
def n_C (C C1 : xM) : Prop := ∀ a b, a ≠ 29 → a ≠ 30 → C1 a b = C a b
def n_M (M M1 : xM) : Prop := ∀ a b, a ≠ 6 → a ≠ 7 → M1 a b = M a b
theorem w_val {C M : xM} {nP nF nD nJ t : Nat} (hS : r_St 1 0 C (M 1) nP nF nD nJ t) (hr : r_rows (C 26) (C 27) (fun k => M 1 (952 + k))) (hi : i_St (M 1) nP nF nD nJ t) : ∃ V : Nat → Nat, (∀ d, V d ≤ 999) ∧ (∀ C1, n_C C C1 → ∀ d, d < nD → ∃ C2, fX8_daysFor C1 (139 + d) = some (nI (V d), C2) ∧ n_C C C2) ∧ (∀ M1, n_M M M1 → ∀ d, d < nD → ∃ M2, fX11_worthOf M1 (nI d) = some (nI (V d), M2) ∧ n_M M M2) := by
  have key : ∀ d, ∃ v, v ≤ 999 ∧ (d < nD → ∃ C' M', fX8_daysFor C (139 + d) = some (nI v, C') ∧ fX11_worthOf M (nI d) = some (nI v, M')) := fun d => by
    by_cases hd : d < nD
    · obtain ⟨r, C', M', e1, e2, -, -, v, hv, rfl⟩ := w_worth hS hr hi hd
      exact ⟨v, hv, fun _ => ⟨C', M', e1, e2⟩⟩
    · exact ⟨0, by omega, fun z => absurd z hd⟩
  obtain ⟨V, hV⟩ := Classical.axiomOfChoice key
  refine ⟨V, fun d => (hV d).1, fun C1 h1 d hd => ?_, fun M1 h1 d hd => ?_⟩
  · obtain ⟨C', M', e1, e2⟩ := (hV d).2 hd
    obtain ⟨r, C2, M2, f1, f2, f3, -, -⟩ := w_worth (C := C1) (M := M) (hS.keep (fun j => h1 _ _ (by omega) (by omega)) (fun a j q => h1 _ _ (by omega) (by omega))) (hr.keep (fun j => h1 _ _ (by omega) (by omega)) (fun j => h1 _ _ (by omega) (by omega)) (fun _ => rfl)) hi hd
    rw [e2] at f2
    have e : (nI (V d), M') = (r, M2) := Option.some.inj f2
    obtain rfl : nI (V d) = r := congrArg Prod.fst e
    exact ⟨C2, f1, fun a b p q => (f3 a b p q).trans (h1 a b p q)⟩
  · obtain ⟨C', M', e1, e2⟩ := (hV d).2 hd
    have em : M1 1 = M 1 := funext fun j => h1 1 j (by omega) (by omega)
    obtain ⟨r, C2, M2, f1, f2, -, f3, -⟩ := w_worth (C := C) (M := M1) (by rw [em]; exact hS) (by rw [em]; exact hr) (by rw [em]; exact hi) hd
    rw [e1] at f1
    have e : (nI (V d), C') = (r, C2) := Option.some.inj f1
    obtain rfl : nI (V d) = r := congrArg Prod.fst e
    exact ⟨M2, f2, fun a b p q => (f3 a b p q).trans (h1 a b p q)⟩
theorem j_share {v J : Nat} (hv : v ≤ 999) (hJ : J ≤ 100) : nI v * nI J / (100 : Int32) = nI (v * J / 100) := by
  have := Nat.mul_le_mul hv hJ
  rw [pk_mul, show (100 : Int32) = nI 100 from rfl, pk_div (by omega) (by decide) (by decide)]
theorem c_jd {C0 : xM} {s : Nat → Int32} {nP nF nD nJ t p J : Nat} {V : Nat → Nat} (hS : r_St 1 0 C0 s nP nF nD nJ t) (eJ : s 5 = nI J) (hJ : J ≤ 100) (hV : ∀ d, V d ≤ 999) (hv : ∀ C1, n_C C0 C1 → ∀ d, d < nD → ∃ C2, fX8_daysFor C1 (139 + d) = some (nI (V d), C2) ∧ n_C C0 C2) (k : xM → Int32 → Int32 → Option (Int32 × xM)) : ∀ (fu i : Nat) (C : xM), n_C C0 C → i ≤ nD → nD - i < fu → ∃ C', n_C C0 C' ∧ fX8_joinedDays_L7 (nI p) k fu C (nI (j_G s p V i)) (nI (j_S s p V J i)) (nI i) = k C' (nI (j_G s p V nD)) (nI (j_S s p V J nD)) := by
  obtain ⟨⟨⟨c0, c1, c2, c3, c4⟩, ⟨s0, s1, s2, s3, s4⟩, ⟨n1, n2, n3, n4, n5⟩⟩, gP, gF, gD, gJ, gR, gL⟩ := id hS
  intro fu
  induction fu with
  | zero => intro i C _ _ h; omega
  | succ fu ih =>
    intro i C hC hi hf
    have k3 : C 1 3 = nI nD := (hC 1 3 (by omega) (by omega)).trans c3
    rw [fX8_joinedDays_L7, k3]
    by_cases q : i = nD
    · subst q
      rw [if_pos (Int32.le_refl _)]
      exact ⟨C, hC, rfl⟩
    · have d1 : C (139 + i) 1 = s (642 + 5 * i + 1) := (hC _ _ (by omega) (by omega)).trans (gD i (by omega) 1 (by decide))
      have d4 : C (139 + i) 4 = s (642 + 5 * i + 4) := (hC _ _ (by omega) (by omega)).trans (gD i (by omega) 4 (by decide))
      rw [if_neg (u_lie (by omega) (by omega)), u_g (by omega) (by omega), u_c (by omega), c_openOf, x_b_some, x_lb, d1, d4]
      by_cases o : s (642 + 5 * i + 1) = nI p ∧ s (642 + 5 * i + 4) = -1
      · obtain ⟨C2, e1, e2⟩ := hv C hC i (by omega)
        have u4 : C2 23 4 = nI J := ((e2 _ _ (by omega) (by omega)).trans (gR 4 (by decide))).trans eJ
        have ih1 := ih (i + 1) C2 e2 (by omega) (by omega)
        rw [j_G, if_pos o, j_S, if_pos o] at ih1
        have b1 := j_G.le (s := s) (p := p) hV i
        have b2 := hV i
        have b3 := j_S.le (s := s) (p := p) hV hJ i
        have b4 := j_sh b2 hJ
        rw [if_pos o, if_neg (by decide : ¬ (1 : Int32) = 0), u_g (by omega) (by omega), e1, x_b_some, x_lb]
        unfold fX8_joinedShare
        rw [x_b_some, x_lb, u4, j_share b2 hJ, nI_add]
        simp only [l_ltn (show j_G s p V i < 2 ^ 31 by omega) (show V i < 2 ^ 31 by omega), x_lb, u_a1]
        rw [apply_ite nI] at ih1
        exact ih1
      · have ih1 := ih (i + 1) C hC (by omega) (by omega)
        rw [j_G, if_neg o, j_S, if_neg o] at ih1
        rw [if_neg o, if_pos rfl]
        simp only [x_lb, u_a1]
        exact ih1
