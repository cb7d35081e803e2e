/-! instalments: the words, in numbers -/
def l_OW (o : Nat → Bool) (U : Nat → Nat) : Nat → Nat
  | 0 => 0
  | j + 1 => if o j = true then l_OW o U j + U j else l_OW o U j
def l_NM (t d : Nat) : Nat := if d < t then 0 else min 24 ((d - t) / 30 + 1)
def l_mm (o : Nat → Bool) (D : Nat → Nat) (t : Nat) : Nat → Nat
  | 0 => 0
  | j + 1 => if o j = true then max (l_mm o D t j) (l_NM t (D j)) else l_mm o D t j
def l_PS (R : Nat → Nat) (L : Nat) : Nat → Nat
  | 0 => 0
  | m + 1 => l_PS R L m + min (R m) L
def l_HB (o : Nat → Bool) (U D R : Nat → Nat) (t L : Nat) : Nat → Bool
  | 0 => true
  | j + 1 => l_HB o U D R t L j && (!(o j) || decide (l_OW o U (j + 1) ≤ l_PS R L (l_mm o D t (j + 1))))
def l_kk (o : Nat → Bool) : Nat → Nat
  | 0 => 0
  | j + 1 => if o j = true then l_kk o j + 1 else l_kk o j
theorem l_NM.le (t d : Nat) : l_NM t d ≤ 24 := by
  unfold l_NM
  split <;> omega
theorem l_mm.le (o : Nat → Bool) (D : Nat → Nat) (t : Nat) : ∀ j, l_mm o D t j ≤ 24
  | 0 => by show 0 ≤ 24; omega
  | j + 1 => by
    have := l_mm.le o D t j
    have := l_NM.le t (D j)
    rw [l_mm]
    split <;> omega
theorem l_OW.le {o : Nat → Bool} {U : Nat → Nat} (hU : ∀ j, U j ≤ 99980001) : ∀ j, l_OW o U j ≤ 99980001 * j
  | 0 => by show 0 ≤ _; omega
  | j + 1 => by
    have := l_OW.le (o := o) hU j
    have := hU j
    rw [l_OW]
    split <;> omega
theorem l_PS.le {R : Nat → Nat} {L : Nat} (hR : ∀ m, R m ≤ 99999) : ∀ m, l_PS R L m ≤ 99999 * m
  | 0 => by show 0 ≤ _; omega
  | m + 1 => by
    have := l_PS.le (L := L) hR m
    have := hR m
    rw [l_PS]
    omega
theorem l_PS.mono {R : Nat → Nat} {L L' : Nat} (h : L ≤ L') : ∀ m, l_PS R L m ≤ l_PS R L' m
  | 0 => Nat.le_refl _
  | m + 1 => by
    have := l_PS.mono (R := R) h m
    rw [l_PS, l_PS]
    omega
theorem l_PS.top {R : Nat → Nat} {L L' : Nat} : ∀ {m : Nat}, (∀ k, k < m → R k ≤ L ∧ R k ≤ L') → l_PS R L m = l_PS R L' m
  | 0, _ => rfl
  | m + 1, h => by
    have := l_PS.top (R := R) (L := L) (L' := L') (m := m) (fun k hk => h k (by omega))
    have := h m (by omega)
    rw [l_PS, l_PS]
    omega
theorem l_PS.zero {R : Nat → Nat} : ∀ m, l_PS R 0 m = 0
  | 0 => rfl
  | m + 1 => by
    rw [l_PS, l_PS.zero m]
    omega
theorem l_HB.step {o : Nat → Bool} {U D R : Nat → Nat} {t L j : Nat} : l_HB o U D R t L (j + 1) = true ↔ l_HB o U D R t L j = true ∧ (o j = true → l_OW o U (j + 1) ≤ l_PS R L (l_mm o D t (j + 1))) := by
  rw [l_HB, Bool.and_eq_true, Bool.or_eq_true, decide_eq_true_eq]
  cases o j <;> simp
theorem l_HB.pre {o : Nat → Bool} {U D R : Nat → Nat} {t L n : Nat} : ∀ (k : Nat), l_HB o U D R t L (n + k) = true → l_HB o U D R t L n = true
  | 0, h => h
  | k + 1, h => l_HB.pre k (l_HB.step.mp h).1
theorem l_HB.mono {o : Nat → Bool} {U D R : Nat → Nat} {t L L' : Nat} (h : L ≤ L') : ∀ {n : Nat}, l_HB o U D R t L n = true → l_HB o U D R t L' n = true
  | 0, _ => rfl
  | n + 1, hh => by
    obtain ⟨h1, h2⟩ := l_HB.step.mp hh
    exact l_HB.step.mpr ⟨l_HB.mono h h1, fun z => Nat.le_trans (h2 z) (l_PS.mono h _)⟩
theorem l_HB.top {o : Nat → Bool} {U D R : Nat → Nat} {t L L' : Nat} (h : ∀ k, k < 24 → R k ≤ L ∧ R k ≤ L') : ∀ n, l_HB o U D R t L n = l_HB o U D R t L' n
  | 0 => rfl
  | n + 1 => by
    rw [l_HB, l_HB, l_HB.top h n, l_PS.top (fun k hk => h k (by have := l_mm.le o D t (n + 1); omega))]
theorem l_HB.zero {o : Nat → Bool} {U D R : Nat → Nat} {t n : Nat} (h : ∃ j, j < n ∧ o j = true ∧ U j ≠ 0) : l_HB o U D R t 0 n = false := by
  obtain ⟨j, hj, ho, hU⟩ := h
  cases e : l_HB o U D R t 0 n with
  | false => rfl
  | true =>
    have := l_HB.pre (n := j + 1) (n - (j + 1)) (by rw [show j + 1 + (n - (j + 1)) = n by omega]; exact e)
    have := (l_HB.step.mp this).2 ho
    rw [l_PS.zero, l_OW, if_pos ho] at this
    omega
theorem l_HB.none {o : Nat → Bool} {U D R : Nat → Nat} {t L : Nat} : ∀ {n : Nat}, (∀ j, j < n → o j = false) → l_HB o U D R t L n = true
  | 0, _ => rfl
  | n + 1, h => l_HB.step.mpr ⟨l_HB.none (fun j hj => h j (by omega)), fun z => by rw [h n (by omega)] at z; cases z⟩
theorem l_kk.le (o : Nat → Bool) : ∀ n, l_kk o n ≤ n
  | 0 => Nat.le_refl _
  | n + 1 => by
    have := l_kk.le o n
    rw [l_kk]
    split <;> omega
theorem l_kk.mono (o : Nat → Bool) {n : Nat} : ∀ k, l_kk o n ≤ l_kk o (n + k)
  | 0 => Nat.le_refl _
  | k + 1 => by
    have := l_kk.mono o (n := n) k
    rw [show n + (k + 1) = n + k + 1 from rfl, l_kk]
    split <;> omega
theorem l_kk.lt {o : Nat → Bool} {j n : Nat} (hj : j < n) (ho : o j = true) : l_kk o j < l_kk o n := by
  have := l_kk.mono o (n := j + 1) (n - (j + 1))
  rw [show j + 1 + (n - (j + 1)) = n by omega, l_kk, if_pos ho] at this
  omega
theorem l_kk.zero {o : Nat → Bool} {n : Nat} (h : l_kk o n = 0) : ∀ j, j < n → o j = false := fun j hj => by
  cases e : o j with
  | false => rfl
  | true => have := l_kk.lt hj e; omega
theorem l_kk.pos {o : Nat → Bool} : ∀ {n : Nat}, l_kk o n ≠ 0 → ∃ j, j < n ∧ o j = true
  | 0, h => absurd rfl h
  | n + 1, h => by
    by_cases e : o n = true
    · exact ⟨n, by omega, e⟩
    · rw [l_kk, if_neg e] at h
      obtain ⟨j, hj, ho⟩ := l_kk.pos h
      exact ⟨j, by omega, ho⟩
theorem l_OW.none {o : Nat → Bool} {U : Nat → Nat} : ∀ {n : Nat}, (∀ j, j < n → o j = false) → l_OW o U n = 0
  | 0, _ => rfl
  | n + 1, h => by
    rw [l_OW, if_neg (by rw [h n (by omega)]; decide)]
    exact l_OW.none (fun j hj => h j (by omega))
theorem l_OW.pos {o : Nat → Bool} {U : Nat → Nat} {j : Nat} (ho : o j = true) (hU : U j ≠ 0) : ∀ {n : Nat}, j < n → l_OW o U n ≠ 0
  | 0, h => by omega
  | n + 1, h => by
    by_cases e : j = n
    · subst e
      rw [l_OW, if_pos ho]
      omega
    · have := l_OW.pos ho hU (n := n) (by omega)
      rw [l_OW]
      split <;> omega
/-- the least level, found -/
def l_least (F : Nat → Bool) (a : Nat) : Prop := F a = true ∧ ∀ b, b < a → F b = false
theorem l_least.uniq {F : Nat → Bool} {a b : Nat} (ha : l_least F a) (hb : l_least F b) : a = b := by
  rcases Nat.lt_trichotomy a b with h | h | h
  · have := hb.2 a h
    rw [ha.1] at this
    cases this
  · exact h
  · have := ha.2 b h
    rw [hb.1] at this
    cases this
theorem l_mul30 (m : Nat) : (30 : Int32) * nI m = nI (30 * m) := pk_mul 30 m
/-- the class's loop over the months -/
theorem c_hL {C : xM} {R : Nat → Nat} {t L d : Nat} (h0 : C 1 0 = nI t) (hR : ∀ m, m < 24 → C 17 m = nI (R m)) (bR : ∀ m, R m ≤ 99999) (ht : t ≤ 3000) (hL : L ≤ 200000) (hd : d ≤ 6000) (k : xM → Int32 → Int32 → Option (Int32 × xM)) : ∀ (fu m : Nat), m ≤ 24 → 24 - m < fu → fX5_holds_L69 (nI L) (nI d) k fu C (nI (l_PS R L m)) (nI m) = k C (nI (l_PS R L (max m (l_NM t d)))) (nI (max m (l_NM t d))) := by
  intro fu
  induction fu with
  | zero => intro m _ h; omega
  | succ fu ih =>
    intro m hm hf
    rw [fX5_holds_L69]
    by_cases q : m = 24
    · have := l_NM.le t d
      rw [if_pos (show (24 : Int32) ≤ nI m by rw [q]; decide), Nat.max_eq_left (by omega)]
    · have hm' : m < 24 := by omega
      rw [if_neg (show ¬ (24 : Int32) ≤ nI m from u_lie (b := 24) hm' (by decide)), h0, l_mul30, nI_add]
      by_cases q2 : d < t + 30 * m
      · have e : max m (l_NM t d) = m := by
          unfold l_NM
          split <;> omega
        rw [if_pos (by rw [l_ltn (by omega) (by omega)]; exact q2), e]
      · have e : max m (l_NM t d) = max (m + 1) (l_NM t d) := by
          unfold l_NM
          split <;> omega
        rw [if_neg (by rw [l_ltn (by omega) (by omega)]; exact q2), u_g (by omega) (by omega), u_c (by omega), hR m hm', u_min (by have := bR m; omega) (by omega), x_lb, x_lb, nI_add, u_a1, e]
        exact ih (m + 1) (by omega) (by omega)
/-- the class's holds -/
theorem c_hold {C : xM} {o : Nat → Bool} {U D R : Nat → Nat} {t L nJ p : Nat} (h0 : C 1 0 = nI t) (h4 : C 1 4 = nI nJ) (hJ : nJ ≤ 16) (hR : ∀ m, m < 24 → C 17 m = nI (R m)) (bR : ∀ m, R m ≤ 99999) (ht : t ≤ 3000) (hL : L ≤ 200000) (hD : ∀ j, D j ≤ 6000) (hU : ∀ j, U j ≤ 99980001)
    (ho : ∀ j, j < nJ → fX5_isOwing C (nI j) (nI p) = some ((if o j = true then 1 else 0), C)) (hu : ∀ j, j < nJ → fX2_unpaidCoins C (169 + j) = some (nI (U j), C)) (hd : ∀ j, j < nJ → C (169 + j) 1 + C 23 12 = nI (D j)) : ∀ (fu j : Nat), j ≤ nJ → nJ - j < fu → l_HB o U D R t L j = true → fX5_holds_L12 (nI p) (nI L) fu C (nI (l_OW o U j)) (nI (l_PS R L (l_mm o D t j))) (nI (l_mm o D t j)) (nI j) = some ((if l_HB o U D R t L nJ = true then 1 else 0), C) := by
  intro fu
  induction fu with
  | zero => intro j _ h; omega
  | succ fu ih =>
    intro j hj hf hb
    rw [fX5_holds_L12, h4]
    by_cases q : j = nJ
    · subst q
      rw [if_pos (Int32.le_refl _), if_pos hb]
    · have hj' : j < nJ := by omega
      rw [if_neg (u_lie hj' (by omega)), ho j hj', x_b_some, x_lb]
      by_cases z : o j = true
      · have b1 := l_OW.le (o := o) hU (j + 1)
        have b2 := l_mm.le o D t j
        have b3 := l_PS.le (L := L) bR (l_mm o D t (j + 1))
        have b4 := l_mm.le o D t (j + 1)
        rw [if_pos z, if_neg (by decide : ¬ (1 : Int32) = 0), u_g (by omega) (by omega), u_c (by omega), hu j hj', x_b_some, x_lb, u_g (by omega) (by omega), hd j hj', x_lb, x_lb, c_hL h0 hR bR ht hL (hD j) _ x_FU _ b2 (by rw [x_FU_eq]; omega), nI_add]
        have e1 : l_OW o U j + U j = l_OW o U (j + 1) := by rw [l_OW, if_pos z]
        have e2 : max (l_mm o D t j) (l_NM t (D j)) = l_mm o D t (j + 1) := by rw [l_mm, if_pos z]
        rw [e1, e2]
        simp only [l_len (show l_OW o U (j + 1) < 2 ^ 31 by omega) (show l_PS R L (l_mm o D t (j + 1)) < 2 ^ 31 by omega), x_lb, u_a1]
        by_cases y : l_OW o U (j + 1) ≤ l_PS R L (l_mm o D t (j + 1))
        · rw [if_pos y]
          exact ih (j + 1) (by omega) (by omega) (l_HB.step.mpr ⟨hb, fun _ => y⟩)
        · rw [if_neg y, if_neg]
          intro w
          have := l_HB.pre (n := j + 1) (nJ - (j + 1)) (by rw [show j + 1 + (nJ - (j + 1)) = nJ by omega]; exact w)
          exact y ((l_HB.step.mp this).2 z)
      · have e1 : l_OW o U j = l_OW o U (j + 1) := by rw [l_OW, if_neg z]
        have e2 : l_mm o D t j = l_mm o D t (j + 1) := by rw [l_mm, if_neg z]
        rw [if_neg z, if_pos rfl]
        simp only [x_lb, u_a1]
        rw [e1, e2]
        exact ih (j + 1) (by omega) (by omega) (l_HB.step.mpr ⟨hb, fun w => absurd w z⟩)
