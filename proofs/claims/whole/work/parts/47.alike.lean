theorem sm_loop2 {ρ : Type} {K : Int32 → Int32 → Option ρ} (L : Nat → Int32 → Int32 → Int32 → Option ρ) (f g : Nat → Int32) (x0 y0 : Int32) (n : Nat) (he : ∀ fu x y, L (fu + 1) x y (nI n) = K x y) (hs : ∀ fu x y i, i < n → L (fu + 1) x y (nI i) = L fu (x + f i) (y + g i) (nI (i + 1))) : ∀ fu i, i ≤ n → n - i < fu → L fu (x0 + sm f i) (y0 + sm g i) (nI i) = K (x0 + sm f n) (y0 + sm g n) := by
  intro fu
  induction fu with
  | zero => intro i _ h; omega
  | succ k ih =>
    intro i hi hf
    by_cases q : i = n
    · subst q
      exact he k _ _
    · rw [hs k _ _ i (by omega), Int32.add_assoc, Int32.add_assoc]
      exact ih (i + 1) (by omega) (by omega)
def sp_sd (s : Nat → Int32) (i j : Int32) (d : Nat) : Int32 := (if s (642 + 5 * d + 4) = i then 1 else 0) - (if s (642 + 5 * d + 4) = j then 1 else 0)
def sp_sI (s : Nat → Int32) (i j kd : Int32) (n : Nat) : Int32 := sm (fun d => if s (642 + 5 * d) = kd then sp_sd s i j d else 0) n
def sp_wI (s : Nat → Int32) (i j kd : Int32) (n : Nat) : Int32 := sm (fun d => if s (642 + 5 * d) = kd then sp_sd s i j d * s (642 + 5 * d + 3) else 0) n
theorem sp_sI_eq (s : Nat → Int32) (i j : Int32) {k : Nat} (hk : k < 4) : ∀ n, sp_sI s i j (nI k) n = sp_deeds s n i (nI k) - sp_deeds s n j (nI k)
  | 0 => by
    unfold sp_sI sp_deeds
    simp [sm]
  | n + 1 => by
    have ih := sp_sI_eq s i j hk n
    unfold sp_sI sp_deeds at ih ⊢
    simp only [sm]
    rw [ih]
    have hm : ¬ nI k = (-1 : Int32) := by rw [l_neg (by omega)]; exact id
    simp only [hm, false_or]
    unfold sp_sd
    generalize sm (fun d => if s (642 + 5 * d + 4) = i ∧ s (642 + 5 * d) = nI k then 1 else 0) n = A
    generalize sm (fun d => if s (642 + 5 * d + 4) = j ∧ s (642 + 5 * d) = nI k then 1 else 0) n = B
    grind
theorem sp_wI_eq (s : Nat → Int32) (i j : Int32) : ∀ {n : Nat}, (∀ d, d < n → ∃ k, k ≤ 3 ∧ s (642 + 5 * d) = nI k) → sp_wI s i j (nI 0) n + sp_wI s i j (nI 1) n + sp_wI s i j (nI 2) n + sp_wI s i j (nI 3) n = sp_wt s n i - sp_wt s n j
  | 0, _ => by
    unfold sp_wI sp_wt
    simp [sm]
  | n + 1, h => by
    have ih := sp_wI_eq s i j (n := n) (fun d hd => h d (by omega))
    obtain ⟨k, hk, ek⟩ := h n (by omega)
    unfold sp_wI sp_wt at ih ⊢
    simp only [sm, ek]
    unfold sp_sd at ih ⊢
    rcases (show k = 0 ∨ k = 1 ∨ k = 2 ∨ k = 3 by omega) with rfl | rfl | rfl | rfl
    all_goals
      simp (disch := omega) only [l_eqn, Nat.reduceEqDiff, if_false, if_true]
      grind
theorem c_youth {C : xM} {s : Nat → Int32} {nP i : Nat} (hi : i < nP) (hp : nP ≤ 12) (gP : r_P 0 C s nP) (iP : i_P s nP) : ∃ r, (r = 0 ∨ r = 1) ∧ fX8_youth C (nI i) = some (r, C) ∧ (r = 1 ↔ sp_yg s i) := by
  have g0 : C (31 + i) 0 = s (30 + 3 * i) := gP i hi 0 (by decide)
  obtain ⟨⟨k, hk, ek⟩, -⟩ := iP i hi
  unfold fX8_youth sp_yg
  simp (disch := omega) only [u_g, u_c, c_kindP, x_b_some, c_oneIf, g0, ek]
  rcases (show k = 0 ∨ k = 1 ∨ k = 2 ∨ k = 3 by omega) with rfl | rfl | rfl | rfl
  · exact ⟨0, Or.inl rfl, rfl, by decide⟩
  · exact ⟨1, Or.inr rfl, rfl, by decide⟩
  · exact ⟨1, Or.inr rfl, rfl, by decide⟩
  · exact ⟨0, Or.inl rfl, rfl, by decide⟩
theorem c_alI {C : xM} {s : Nat → Int32} {nD : Nat} (i j kd w : Int32) (kk : xM → Int32 → Int32 → Option (Int32 × xM)) (hD : C 1 3 = nI nD) (hn : nD ≤ 30) (gD : r_D 0 C s nD) : fX8_areAlike_L48 i j kd kk x_FU C w 0 0 = kk C (w + sp_wI s i j kd nD) (0 + sp_sI s i j kd nD) := by
  have h := sm_loop2 (K := fun x y => kk C x y) (fun fu x y z => fX8_areAlike_L48 i j kd kk fu C x y z) (fun d => if s (642 + 5 * d) = kd then sp_sd s i j d * s (642 + 5 * d + 3) else 0) (fun d => if s (642 + 5 * d) = kd then sp_sd s i j d else 0) w 0 nD ?_ ?_ x_FU 0 (Nat.zero_le _) (by rw [x_FU_eq]; omega)
  · simp only [sm, Int32.add_zero] at h
    exact h
  · intro fu x y
    rw [fX8_areAlike_L48, hD, if_pos (Int32.le_refl _)]
  · intro fu x y z hz
    have g0 : C (139 + z) 0 = s (642 + 5 * z) := gD z hz 0 (by decide)
    have g3 : C (139 + z) 3 = s (642 + 5 * z + 3) := gD z hz 3 (by decide)
    have g4 : C (139 + z) 4 = s (642 + 5 * z + 4) := gD z hz 4 (by decide)
    rw [fX8_areAlike_L48, hD, if_neg (u_lie hz (by omega))]
    simp (maxSteps := 1000000) (disch := omega) only [x_l, u_a1, u_g, u_c, c_oneIf, x_b_some, g0, g3, g4]
    unfold sp_sd
    have z1 : x + 0 = x := by simp
    have z2 : y + 0 = y := by simp
    grind
theorem x_FU5 : ∃ n, x_FU = n + 1 + 1 + 1 + 1 + 1 := ⟨x_FU - 5, by rw [x_FU_eq]⟩
theorem c_alS {C : xM} {s : Nat → Int32} {nD k fu : Nat} {i j w : Int32} {kk : xM → Int32 → Option (Int32 × xM)} (hD : C 1 3 = nI nD) (hn : nD ≤ 30) (gD : r_D 0 C s nD) (hk4 : k < 4) : fX8_areAlike_L36 i j kk (fu + 1) C w (nI k) = if 0 + sp_sI s i j (nI k) nD = 0 then fX8_areAlike_L36 i j kk fu C (w + sp_wI s i j (nI k) nD) (nI (k + 1)) else some (0, C) := by
  rw [fX8_areAlike_L36, if_neg (show ¬ (4 : Int32) ≤ nI k from u_lie (a := k) (b := 4) hk4 (by decide))]
  have := c_alI i j (nI k) w (fun (M_25 : xM) (x3_22 : Int32) (x5_23 : Int32) => if x5_23 = 0 then (x_l (nI k + (1 : Int32)) fun x4_27 => fX8_areAlike_L36 i j kk fu M_25 x3_22 x4_27) else (some ((0 : Int32), M_25))) hD hn gD
  refine Eq.trans ?_ (this.trans ?_)
  · rfl
  · simp only [x_l, u_a1]
theorem c_alS0 {C : xM} {s : Nat → Int32} {nD fu : Nat} {i j w : Int32} {kk : xM → Int32 → Option (Int32 × xM)} (hD : C 1 3 = nI nD) (hn : nD ≤ 30) (gD : r_D 0 C s nD) : fX8_areAlike_L36 i j kk (fu + 1) C w 0 = if 0 + sp_sI s i j (nI 0) nD = 0 then fX8_areAlike_L36 i j kk fu C (w + sp_wI s i j (nI 0) nD) (nI 1) else some (0, C) := by
  have := c_alS (k := 0) (fu := fu) (i := i) (j := j) (w := w) (kk := kk) hD hn gD (by omega)
  rw [nI_0] at this
  rw [nI_0]
  exact this
theorem c_alF {C : xM} {fu : Nat} {i j w : Int32} {kk : xM → Int32 → Option (Int32 × xM)} : fX8_areAlike_L36 i j kk (fu + 1) C w (nI 4) = kk C w := by
  rw [fX8_areAlike_L36, if_pos (show (4 : Int32) ≤ nI 4 from Int32.le_refl _)]
theorem c_al {C : xM} {s : Nat → Int32} {nD nP nJ t i j : Nat} (hD : C 1 3 = nI nD) (hn : nD ≤ 30) (hi : i < nJ) (hj : j < nJ) (hn2 : nJ ≤ 16) (hp : nP ≤ 12) (gD : r_D 0 C s nD) (gP : r_P 0 C s nP) (gJ : r_J 0 C s nJ) (iP : i_P s nP) (iD : i_D s nP nD nJ) (iJ : i_J s nP nJ t) : ∃ r, (r = 0 ∨ r = 1) ∧ fX8_areAlike C (nI i) (nI j) = some (r, C) ∧ (r = 1 ↔ sp_al s nD i j) := by
  obtain ⟨⟨p, hp1, ep⟩, -⟩ := iJ.1 i hi
  obtain ⟨⟨q, hq1, eq⟩, -⟩ := iJ.1 j hj
  have j0 : C (169 + i) 0 = s (792 + 10 * i) := (gJ i hi).1 0 (by decide)
  have j0' : C (169 + j) 0 = s (792 + 10 * j) := (gJ j hj).1 0 (by decide)
  obtain ⟨y1, hy1, ey1, fy1⟩ := c_youth hp1 hp gP iP
  obtain ⟨y2, hy2, ey2, fy2⟩ := c_youth hq1 hp gP iP
  have hk : ∀ d, d < nD → ∃ k, k ≤ 3 ∧ s (642 + 5 * d) = nI k := fun d hd => (iD d hd).1
  have hd : ∀ k, k < 4 → (0 + sp_sI s (nI i) (nI j) (nI k) nD = 0 ↔ sp_deeds s nD (nI i) (nI k) = sp_deeds s nD (nI j) (nI k)) := by
    intro k hk
    rw [sp_sI_eq s _ _ hk]
    generalize sp_deeds s nD (nI i) (nI k) = A
    generalize sp_deeds s nD (nI j) (nI k) = B
    grind
  unfold fX8_areAlike sp_al
  rw [u_g (by omega) (by decide), u_c (by omega), j0, ep, ey1, x_b_some, u_g (by omega) (by decide), u_c (by omega), j0', eq, ey2, x_b_some, u_c (by omega), u_c (by omega)]
  have hy : y1 = y2 ↔ (sp_yg s p ↔ sp_yg s q) := by
    rw [← fy1, ← fy2]
    rcases hy1 with rfl | rfl <;> rcases hy2 with rfl | rfl <;> simp
  by_cases y : y1 = y2
  · rw [if_pos y]
    simp only [x_l]
    have step := fun (fu k : Nat) (w : Int32) (kk : xM → Int32 → Option (Int32 × xM)) (hk4 : k < 4) => c_alS (i := nI i) (j := nI j) (fu := fu) (w := w) (kk := kk) hD hn gD hk4
    have step0 := fun (fu : Nat) (w : Int32) (kk : xM → Int32 → Option (Int32 × xM)) => c_alS0 (i := nI i) (j := nI j) (fu := fu) (w := w) (kk := kk) hD hn gD
    have fin := fun (fu : Nat) (w : Int32) (kk : xM → Int32 → Option (Int32 × xM)) => c_alF (C := C) (i := nI i) (j := nI j) (fu := fu) (w := w) (kk := kk)
    obtain ⟨fu, hfu⟩ := x_FU5
    rw [hfu]
    by_cases d0 : sp_deeds s nD (nI i) (nI 0) = sp_deeds s nD (nI j) (nI 0)
    · by_cases d1 : sp_deeds s nD (nI i) (nI 1) = sp_deeds s nD (nI j) (nI 1)
      · by_cases d2 : sp_deeds s nD (nI i) (nI 2) = sp_deeds s nD (nI j) (nI 2)
        · by_cases d3 : sp_deeds s nD (nI i) (nI 3) = sp_deeds s nD (nI j) (nI 3)
          · rw [step0, if_pos ((hd 0 (by omega)).mpr d0), step _ 1 _ _ (by omega), if_pos ((hd 1 (by omega)).mpr d1), step _ 2 _ _ (by omega), if_pos ((hd 2 (by omega)).mpr d2), step _ 3 _ _ (by omega), if_pos ((hd 3 (by omega)).mpr d3), fin]
            have hw : 0 + sp_wI s (nI i) (nI j) (nI 0) nD + sp_wI s (nI i) (nI j) (nI 1) nD + sp_wI s (nI i) (nI j) (nI 2) nD + sp_wI s (nI i) (nI j) (nI 3) nD = sp_wt s nD (nI i) - sp_wt s nD (nI j) := by
              rw [← sp_wI_eq s (nI i) (nI j) hk]
              rw [Int32.zero_add]
            rw [hw]
            generalize sp_wt s nD (nI i) - sp_wt s nD (nI j) = w
            have hall : ∀ k, k < 4 → sp_deeds s nD (nI i) (nI k) = sp_deeds s nD (nI j) (nI k) := by
              intro k hk4
              rcases (show k = 0 ∨ k = 1 ∨ k = 2 ∨ k = 3 by omega) with rfl | rfl | rfl | rfl
              · exact d0
              · exact d1
              · exact d2
              · exact d3
            have ew : (if 0 ≤ w then w else 0 - w : Int32) = (if 0 ≤ w then w else -w) := by
              split
              · rfl
              · rw [Int32.zero_sub]
            rw [ew]
            by_cases w5 : (if 0 ≤ w then w else -w) ≤ 5
            · rw [if_neg (Int32.not_lt.mpr w5)]
              exact ⟨1, Or.inr rfl, rfl, ⟨fun _ => ⟨w5, hy.mp y, hall⟩, fun _ => rfl⟩⟩
            · rw [if_pos (Int32.not_le.mp w5)]
              exact ⟨0, Or.inl rfl, rfl, ⟨fun e => absurd e (by decide), fun e => absurd e.1 w5⟩⟩
          · rw [step0, if_pos ((hd 0 (by omega)).mpr d0), step _ 1 _ _ (by omega), if_pos ((hd 1 (by omega)).mpr d1), step _ 2 _ _ (by omega), if_pos ((hd 2 (by omega)).mpr d2), step _ 3 _ _ (by omega), if_neg (fun e => d3 ((hd 3 (by omega)).mp e))]
            exact ⟨0, Or.inl rfl, rfl, ⟨fun e => absurd e (by decide), fun e => absurd (e.2.2 3 (by omega)) d3⟩⟩
        · rw [step0, if_pos ((hd 0 (by omega)).mpr d0), step _ 1 _ _ (by omega), if_pos ((hd 1 (by omega)).mpr d1), step _ 2 _ _ (by omega), if_neg (fun e => d2 ((hd 2 (by omega)).mp e))]
          exact ⟨0, Or.inl rfl, rfl, ⟨fun e => absurd e (by decide), fun e => absurd (e.2.2 2 (by omega)) d2⟩⟩
      · rw [step0, if_pos ((hd 0 (by omega)).mpr d0), step _ 1 _ _ (by omega), if_neg (fun e => d1 ((hd 1 (by omega)).mp e))]
        exact ⟨0, Or.inl rfl, rfl, ⟨fun e => absurd e (by decide), fun e => absurd (e.2.2 1 (by omega)) d1⟩⟩
    · rw [step0, if_neg (fun e => d0 ((hd 0 (by omega)).mp e))]
      exact ⟨0, Or.inl rfl, rfl, ⟨fun e => absurd e (by decide), fun e => absurd (e.2.2 0 (by omega)) d0⟩⟩
  · rw [if_neg y]
    exact ⟨0, Or.inl rfl, rfl, ⟨fun e => absurd e (by decide), fun e => absurd (hy.mpr e.2.1) y⟩⟩
