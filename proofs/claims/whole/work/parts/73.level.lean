/-! the reference's instalments -/
theorem p_hL {M : xM} {R : Nat → Nat} {t L d k : Nat} (h0 : M 1 0 = nI t) (hk : k < 16) (hd9 : M 9 k = nI d) (hR : ∀ m, m < 24 → M 8 m = nI (R m)) (bR : ∀ m, R m ≤ 99999) (ht : t ≤ 3000) (hL : L ≤ 200000) (hd : d ≤ 6000) (kk : xM → Int64 → Int32 → Option (Int32 × xM)) : ∀ (fu m : Nat), m ≤ 24 → 24 - m < fu → fX11_holds_L33 (nI L) (nI k) kk fu M (lN (l_PS R L m)) (nI m) = kk M (lN (l_PS R L (max m (l_NM t d)))) (nI (max m (l_NM t d))) := by
  intro fu
  induction fu with
  | zero => intro m _ h; omega
  | succ fu ih =>
    intro m hm hf
    rw [fX11_holds_L33]
    by_cases q : m = 24
    · have := l_NM.le t d
      rw [if_pos (show (24 : Int32) ≤ nI m by rw [q]; decide), Nat.max_eq_left (by omega)]
    · have hm' : m < 24 := by omega
      rw [if_neg (show ¬ (24 : Int32) ≤ nI m from u_lie (b := 24) hm' (by decide)), u_g hk (by omega), u_c (by omega), hd9, h0, l_mul30, nI_add]
      by_cases q2 : d < t + 30 * m
      · have e : max m (l_NM t d) = m := by
          unfold l_NM
          split <;> omega
        rw [if_pos (by rw [l_ltn (by omega) (by omega)]; exact q2), e]
      · have e : max m (l_NM t d) = max (m + 1) (l_NM t d) := by
          unfold l_NM
          split <;> omega
        have b := bR m
        rw [if_neg (by rw [l_ltn (by omega) (by omega)]; exact q2), u_g (by omega) (by omega), u_c (by omega), hR m hm', p_less, x_b_some, u_min' (by omega) (by omega), x_lb, x_lb, nI_l (by omega), lN_add, u_a1, e]
        exact ih (m + 1) (by omega) (by omega)
theorem p_hold {M : xM} {o : Nat → Bool} {U D R : Nat → Nat} {t L nJ : Nat} (h0 : M 1 0 = nI t) (h24 : M 0 24 = nI (l_kk o nJ)) (hJ : nJ ≤ 16) (hR : ∀ m, m < 24 → M 8 m = nI (R m)) (bR : ∀ m, R m ≤ 99999) (ht : t ≤ 3000) (hL : L ≤ 200000) (hD : ∀ j, D j ≤ 6000) (hU : ∀ j, U j ≤ 99980001)
    (h9 : ∀ j, j < nJ → o j = true → M 9 (l_kk o j) = nI (D j) ∧ M 10 (l_kk o j) = nI (U j)) : ∀ (n j fu : Nat), n + j = nJ → l_kk o nJ - l_kk o j < fu → l_HB o U D R t L j = true → fX11_holds_L11 (nI L) fu M (lN (l_PS R L (l_mm o D t j))) (nI (l_mm o D t j)) (lN (l_OW o U j)) (nI (l_kk o j)) = some ((if l_HB o U D R t L nJ = true then 1 else 0), M) := by
  intro n
  induction n with
  | zero =>
    intro j fu hj hf hb
    obtain rfl : j = nJ := by omega
    cases fu with
    | zero => omega
    | succ fu => rw [fX11_holds_L11, h24, if_pos (Int32.le_refl _), if_pos hb]
  | succ n ih =>
    intro j fu hj hf hb
    have hj' : j < nJ := by omega
    by_cases z : o j = true
    · cases fu with
      | zero => omega
      | succ fu =>
        have b0 := l_kk.lt hj' z
        have b1 := l_OW.le (o := o) hU (j + 1)
        have b2 := l_mm.le o D t j
        have b3 := l_PS.le (L := L) bR (l_mm o D t (j + 1))
        have b4 := l_mm.le o D t (j + 1)
        have b5 := l_kk.le o nJ
        have b6 := hU j
        obtain ⟨f1, f2⟩ := h9 j hj' z
        have ek : l_kk o (j + 1) = l_kk o j + 1 := by rw [l_kk, if_pos z]
        have ih1 := ih (j + 1) fu (by omega) (by omega)
        rw [ek] at ih1
        have e1 : l_OW o U j + U j = l_OW o U (j + 1) := by rw [l_OW, if_pos z]
        have e2 : max (l_mm o D t j) (l_NM t (D j)) = l_mm o D t (j + 1) := by rw [l_mm, if_pos z]
        rw [fX11_holds_L11, h24, if_neg (u_lie b0 (by omega)), u_g (by omega) (by omega), u_c (by omega), f2, nI_l (by omega), lN_add, e1, x_lb, x_lb, p_hL h0 (by omega) f1 hR bR ht hL (hD j) _ x_FU _ b2 (by rw [x_FU_eq]; omega), e2]
        have el : (0 ≤ lg_cmp (lN (l_PS R L (l_mm o D t (j + 1)))) (lN (l_OW o U (j + 1)))) = (l_OW o U (j + 1) ≤ l_PS R L (l_mm o D t (j + 1))) := propext ((lg_cmp_ge _ _).trans (lN_le (by omega) (by omega)))
        simp only [el, x_lb, u_a1]
        by_cases y : l_OW o U (j + 1) ≤ l_PS R L (l_mm o D t (j + 1))
        · rw [if_pos y]
          exact ih1 (l_HB.step.mpr ⟨hb, fun _ => y⟩)
        · rw [if_neg y, if_neg]
          intro w
          have := l_HB.pre (n := j + 1) (nJ - (j + 1)) (by rw [show j + 1 + (nJ - (j + 1)) = nJ by omega]; exact w)
          exact y ((l_HB.step.mp this).2 z)
    · have e1 : l_OW o U j = l_OW o U (j + 1) := by rw [l_OW, if_neg z]
      have e2 : l_mm o D t j = l_mm o D t (j + 1) := by rw [l_mm, if_neg z]
      have e3 : l_kk o j = l_kk o (j + 1) := by rw [l_kk, if_neg z]
      rw [e1, e2, e3]
      exact ih (j + 1) fu (by omega) (by omega) (l_HB.step.mpr ⟨hb, fun w => absurd w z⟩)
theorem p_fl {M : xM} {F : Nat → Bool} (hF : ∀ L, L ≤ 200000 → fX11_holds M (nI L) = some ((if F L = true then 1 else 0), M)) (hm : ∀ a b, a ≤ b → F a = true → F b = true) : ∀ (fu lo hi : Nat), hi ≤ 200000 → lo < hi → hi - lo ≤ 2 ^ fu → F hi = true → F lo = false → ∃ r, r ≤ hi ∧ l_least F r ∧ fX11_findLevel_L29 (fu + 1) M (nI lo) (nI hi) = some (nI r, M) := by
  intro fu
  have fin : ∀ lo hi, hi - lo ≤ 1 → lo < hi → F hi = true → F lo = false → l_least F hi := fun lo hi h1 h2 h3 h4 => ⟨h3, fun x hx => by
    cases e : F x with
    | false => rfl
    | true =>
      have := hm x lo (by omega) e
      rw [h4] at this
      cases this⟩
  induction fu with
  | zero =>
    intro lo hi hh hl hw h1 h2
    rw [fX11_findLevel_L29, pk_sub (by omega), if_pos (by rw [kn1_le (by omega)]; omega)]
    exact ⟨hi, Nat.le_refl _, fin lo hi (by omega) hl h1 h2, rfl⟩
  | succ fu ih =>
    intro lo hi hh hl hw h1 h2
    rw [fX11_findLevel_L29, pk_sub (by omega)]
    by_cases q : hi - lo ≤ 1
    · rw [if_pos (by rw [kn1_le (by omega)]; omega)]
      exact ⟨hi, Nat.le_refl _, fin lo hi q hl h1 h2, rfl⟩
    · have e2 : nI (lo + hi) / (2 : Int32) = nI ((lo + hi) / 2) := pk_div (d := 2) (by omega) (by decide) (by decide)
      have hp : 2 ^ (fu + 1) = 2 * 2 ^ fu := by rw [Nat.pow_succ, Nat.mul_comm]
      rw [if_neg (by rw [kn1_le (by omega)]; omega), nI_add, e2, x_lb, hF _ (by omega), x_b_some]
      simp only [x_lb]
      by_cases y : F ((lo + hi) / 2) = true
      · rw [if_pos y, if_neg (by decide : ¬ (1 : Int32) = 0)]
        obtain ⟨r, r1, r2, r3⟩ := ih lo ((lo + hi) / 2) (by omega) (by omega) (by omega) y h2
        exact ⟨r, by omega, r2, r3⟩
      · rw [if_neg y, if_pos rfl]
        obtain ⟨r, r1, r2, r3⟩ := ih ((lo + hi) / 2) hi hh (by omega) (by omega) h1 (by cases e : F ((lo + hi) / 2) with
          | false => rfl
          | true => exact absurd e y)
        exact ⟨r, r1, r2, r3⟩
/-- the rooms -/
theorem p_rm {M0 : xM} {R : Nat → Nat} {p : Nat} (hr : ∀ M1 : xM, (∀ a b, a ≠ 8 → M1 a b = M0 a b) → ∀ m, m < 24 → fX11_roomOf M1 (nI p) (nI m) = some (nI (R m), M1)) (k : xM → Option xM) : ∀ (fu m : Nat) (M1 : xM), m ≤ 24 → 24 - m < fu → (∀ a b, a ≠ 8 → M1 a b = M0 a b) → (∀ x, x < m → M1 8 x = nI (R x)) → ∃ M2, (∀ a b, a ≠ 8 → M2 a b = M0 a b) ∧ (∀ x, x < 24 → M2 8 x = nI (R x)) ∧ fX11_findDues_L2 (nI p) k fu M1 (nI m) = k M2 := by
  intro fu
  induction fu with
  | zero => intro m C _ h; omega
  | succ fu ih =>
    intro m M1 hm hf h0 h1
    rw [fX11_findDues_L2]
    by_cases q : m = 24
    · subst q
      rw [if_pos (show (24 : Int32) ≤ nI 24 from by decide)]
      exact ⟨M1, h0, h1, rfl⟩
    · have hm' : m < 24 := by omega
      obtain ⟨M2, e1, e2, e3⟩ := ih (m + 1) (x_up M1 8 m (nI (R m))) (by omega) (by omega) (fun a b h => (x_uo h).trans (h0 a b h)) (fun x hx => by
        by_cases y : x = m
        · subst y; simp (disch := omega) only [x_uo, x_uj, x_us]
        · simp (disch := omega) only [x_uo, x_uj, x_us]; exact h1 x (by omega))
      refine ⟨M2, e1, e2, Eq.trans ?_ e3⟩
      rw [if_neg (show ¬ (24 : Int32) ≤ nI m from u_lie (b := 24) hm' (by decide)), hr M1 h0 m hm', x_b_some, u_g (by omega) (by omega), u_c (by omega), x_lb, x_lb, u_a1]
theorem l_kk.last {o : Nat → Bool} : ∀ {j a : Nat}, l_kk o j = a + 1 → ∃ i, i < j ∧ o i = true ∧ l_kk o i = a
  | 0, a, h => by cases h
  | j + 1, a, h => by
    rw [l_kk] at h
    by_cases z : o j = true
    · rw [if_pos z] at h
      exact ⟨j, by omega, z, by omega⟩
    · rw [if_neg z] at h
      obtain ⟨i, h1, h2, h3⟩ := l_kk.last h
      exact ⟨i, by omega, h2, h3⟩
theorem p_stop {M : xM} {d at_ : Nat} (ha : at_ ≤ 16) (hd : d ≤ 6000) (h : ∀ a, at_ = a + 1 → ∃ e, e ≤ 6000 ∧ M 9 a = nI e ∧ e ≤ d) (k : xM → Int32 → Option xM) {fu : Nat} (hf : 0 < fu) : fX11_findDues_L110 (nI d) k fu M (nI at_) = k M (nI at_) := by
  cases fu with
  | zero => omega
  | succ fu =>
    rw [fX11_findDues_L110]
    cases at_ with
    | zero => rw [if_pos (by decide)]
    | succ a =>
      obtain ⟨e, he, h1, h2⟩ := h a rfl
      rw [if_neg (by rw [kn0_le (by omega)]; omega), u_m1, u_g (by omega) (by omega), u_c (by omega), h1, if_pos (by rw [l_len (by omega) (by omega)]; exact h2)]
/-- the dues, in the order of their days -/
theorem p_du {M0 : xM} {s : Nat → Int32} {nP nJ t p : Nat} (e1 : M0 1 = s) (hJ : s 20 = nI nJ) (hn : nJ ≤ 16) (iJ : i_J s nP nJ t) (ht : t ≤ 3000) (iR : i_R s) : ∀ (fu j : Nat) (M : xM), j ≤ nJ → nJ - j < fu → (∀ a b, ¬ (a = 9 ∨ a = 10 ∨ (a = 0 ∧ b = 24)) → M a b = M0 a b) → M 0 24 = nI (l_kk (s_o s p) j) → (∀ i, i < j → s_o s p i = true → M 9 (l_kk (s_o s p) i) = nI (s_D s nJ i) ∧ M 10 (l_kk (s_o s p) i) = nI (s_U s nJ i)) → ∃ M', fX11_findDues_L33 (nI p) fu M (nI j) = some M' ∧ (∀ a b, ¬ (a = 9 ∨ a = 10 ∨ (a = 0 ∧ b = 24)) → M' a b = M0 a b) ∧ M' 0 24 = nI (l_kk (s_o s p) nJ) ∧ (∀ i, i < nJ → s_o s p i = true → M' 9 (l_kk (s_o s p) i) = nI (s_D s nJ i) ∧ M' 10 (l_kk (s_o s p) i) = nI (s_U s nJ i)) := by
  obtain ⟨hu, eu⟩ := s_U.eq iJ
  obtain ⟨hd, ed⟩ := s_D.eq iJ ht iR
  intro fu
  induction fu with
  | zero => intro j M _ h; omega
  | succ fu ih =>
    intro j M hj hf hM h24 h9
    have r1 : ∀ b, M 1 b = s b := fun b => by rw [hM 1 b (by omega), e1]
    have eM : M 1 = s := funext r1
    rw [fX11_findDues_L33, r1, hJ]
    by_cases q : j = nJ
    · subst q
      rw [if_pos (Int32.le_refl _)]
      exact ⟨M, rfl, hM, h24, h9⟩
    · have hj' : j < nJ := by omega
      have b0 := l_kk.le (s_o s p) j
      have skip : s_o s p j = false → ∃ M', fX11_findDues_L33 (nI p) fu M (nI (j + 1)) = some M' ∧ (∀ a b, ¬ (a = 9 ∨ a = 10 ∨ (a = 0 ∧ b = 24)) → M' a b = M0 a b) ∧ M' 0 24 = nI (l_kk (s_o s p) nJ) ∧ (∀ i, i < nJ → s_o s p i = true → M' 9 (l_kk (s_o s p) i) = nI (s_D s nJ i) ∧ M' 10 (l_kk (s_o s p) i) = nI (s_U s nJ i)) := fun z => ih (j + 1) M (by omega) (by omega) hM (by rw [l_kk, if_neg (by rw [z]; decide)]; exact h24) (fun i hi ho => by
        by_cases e : i = j
        · rw [e, z] at ho; cases ho
        · exact h9 i (by omega) ho)
      rw [if_neg (u_lie hj' (by omega)), u_10, u_g (by omega) (by omega), u_c (by omega), x_lb, r1, p_unp M (by omega), x_b_some, p_turned M (by omega), x_b_some, r1, eM]
      by_cases q1 : s (792 + 10 * j) = nI p
      · rw [if_pos q1]
        by_cases q3 : sp_unp s j = 0
        · rw [if_pos q3]
          simp only [x_lb, u_a1]
          exact skip (by unfold s_o; rw [decide_eq_false_iff_not]; exact fun z => z.2.2 q3)
        · rw [if_neg q3]
          by_cases q2 : s (792 + 10 * j + 5) = 3
          · rw [if_pos q2, if_neg (by decide : ¬ (1 : Int32) = 0)]
            simp only [x_lb, u_a1]
            exact skip (by unfold s_o; rw [decide_eq_false_iff_not]; exact fun z => z.2.1 q2)
          · have ho : s_o s p j = true := by unfold s_o; rw [decide_eq_true_eq]; exact ⟨q1, q2, q3⟩
            have bk := l_kk.lt hj' ho
            have bk2 := l_kk.le (s_o s p) nJ
            rw [if_neg q2, if_pos rfl, u_a1, u_g (by omega) (by omega), u_c (by omega), ed j hj', h24, x_lb, x_lb, x_lb]
            rw [p_stop (by omega) (hd j) (fun a ha => by
              obtain ⟨i, hi, hoi, eki⟩ := l_kk.last ha
              refine ⟨s_D s nJ i, hd i, by rw [← eki]; exact (h9 i hi hoi).1, ?_⟩
              obtain ⟨-, ⟨x, hx, ex⟩, -⟩ := iJ.1 i (by omega)
              obtain ⟨-, ⟨y, hy, ey⟩, -⟩ := iJ.1 j hj'
              have := iJ.2 i j hi hj'
              rw [ex, ey, l_len (by omega) (by omega)] at this
              unfold s_D
              rw [if_pos (by omega), if_pos hj', ex, ey, u_c (by omega), u_c (by omega)]
              omega) _ (show 0 < x_FU by rw [x_FU_eq]; omega)]
            rw [u_g (by omega) (by omega), u_c (by omega), x_lb, p_unp _ (by omega), x_up_ne _ _ _ (by decide), eM, x_b_some, eu j hj', u_g (by omega) (by omega), x_lb]
            simp (disch := omega) only [x_lb, x_uo, x_uj, x_us, h24, u_a1]
            refine ih (j + 1) _ (by omega) (by omega) (fun a b z => ?_) (by rw [l_kk, if_pos ho]; simp (disch := omega) only [x_uo, x_uj, x_us]) (fun i hi hoi => ?_)
            · rw [← hM a b z]
              by_cases y : a = 0
              · subst y
                simp (disch := omega) only [x_uo, x_uj, x_us]
              · simp (disch := omega) only [x_uo, x_uj, x_us]
            · by_cases y : i = j
              · subst y
                refine ⟨?_, ?_⟩ <;> simp (disch := omega) only [x_uo, x_uj, x_us]
              · have := l_kk.lt (n := j) (by omega) hoi
                obtain ⟨z1, z2⟩ := h9 i (by omega) hoi
                refine ⟨?_, ?_⟩
                · simp (disch := omega) only [x_uo, x_uj, x_us]; exact z1
                · simp (disch := omega) only [x_uo, x_uj, x_us]; exact z2
      · rw [if_neg q1]
        simp only [x_lb, u_a1]
        exact skip (by unfold s_o; rw [decide_eq_false_iff_not]; exact fun z => q1 z.1)
