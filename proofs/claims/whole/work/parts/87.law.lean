noncomputable def c_beg (C : xM) : xM := x_up (x_up (x_up (x_up (x_up (x_up (x_up (x_up (x_up C 11 2 0) 11 3 0) 12 2 0) 12 3 0) 3 3 0) 3 4 0) 3 5 0) 3 6 (-1)) 3 7 0
theorem c_begin' (C : xM) : fX6_begin C = some (c_beg C) := by
  unfold fX6_begin fX9_rewind
  rfl
theorem c_hd0 {C : xM} (h4 : C 3 4 = 0) (h6 : C 3 6 = -1) : fX6_takesHeading C = x_b (fX9_says C 0) fun v N => if v = 0 then (some ((0 : Int32), N)) else (if (N 3 6) = (-1 : Int32) then some ((1 : Int32), x_up (x_up N 3 6 ((N 3 6) + (1 : Int32))) 3 7 1) else (x_v (fX6_endSection N) fun N2 => some ((1 : Int32), x_up (x_up N2 3 6 ((N2 3 6) + (1 : Int32))) 3 7 1))) := by
  unfold fX6_takesHeading
  have e : xs_hd ((-1 : Int32) + 1) = 0 := by decide
  rw [h4, if_neg (by decide), h6, if_neg (by decide), e]
  rfl
/-- the whole reading, on both sides -/
theorem q_read {C M : xM} {n : Nat} {w : Nat → Nat} (h1 : C 11 1 = nI n) (h4 : M 0 4 = nI n) (hn : n ≤ 120) (tb : ∀ i, i < n → C 14 i = nI (w i) ∧ M 3 i = nI (w i)) (tw : ∀ i, w i ≤ 255) : z_F C (p_M6 M) (fX6_findFault C) (fX11_law M) := by
  have mr : ∀ x y, ¬ (x = 0 ∧ (y = 4 ∨ y = 6 ∨ y = 7 ∨ y = 8 ∨ y = 10 ∨ y = 13)) → p_M6 M x y = M x y := fun x y q => by
    unfold p_M6
    by_cases z : x = 0
    · subst z; simp (disch := omega) only [x_uo, x_uj, x_us]
    · simp (disch := omega) only [x_uo, x_uj, x_us]
  have m7 : p_M6 M 0 7 = nI n := by unfold p_M6; simp (disch := omega) only [x_uo, x_uj, x_us]; exact h4
  have m6 : p_M6 M 0 6 = nI 0 := by unfold p_M6; simp (disch := omega) only [x_uo, x_uj, x_us]; rfl
  have m8 : p_M6 M 0 8 = nI 0 := by unfold p_M6; simp (disch := omega) only [x_uo, x_uj, x_us]; rfl
  have m10 : p_M6 M 0 10 = 0 := by unfold p_M6; simp (disch := omega) only [x_uo, x_uj, x_us]
  have m13 : p_M6 M 0 13 = nI 0 := by unfold p_M6; simp (disch := omega) only [x_uo, x_uj, x_us]; rfl
  have m3 : ∀ j, j < n → p_M6 M 3 j = nI (w j) := fun j hj => (mr _ _ (by omega)).trans (tb j hj).2
  rw [p_law, c_ff, c_begin', x_v_some]
  generalize p_M6 M = N at *
  obtain ⟨M2, e1, e2, e3, e4, e5, e6⟩ := p_next (M := N) (n := n) (p := 0) (s0 := 0) (w := w) hn tw (by omega) m10 m6 m7 m8 (by omega) m3
  have g10 : M2 0 10 = 0 := by
    rcases e6 with ⟨⟨-, z, -⟩, -⟩ | ⟨-, z⟩
    · omega
    · exact z
  have br : ∀ x y, ¬ (x = 3 ∨ (x = 11 ∧ (y = 2 ∨ y = 3)) ∨ (x = 12 ∧ (y = 2 ∨ y = 3))) → c_beg C x y = C x y := fun x y q => by
    unfold c_beg
    by_cases z1 : x = 11
    · subst z1; simp (disch := omega) only [x_uo, x_uj, x_us]
    · by_cases z2 : x = 12
      · subst z2; simp (disch := omega) only [x_uo, x_uj, x_us]
      · simp (disch := omega) only [x_uo, x_uj, x_us]
  have b113 : c_beg C 11 3 = nI 0 := by unfold c_beg; simp (disch := omega) only [x_uo, x_uj, x_us]; rfl
  have b33 : c_beg C 3 3 = 0 := by unfold c_beg; simp (disch := omega) only [x_uo, x_uj, x_us]
  have b34 : c_beg C 3 4 = 0 := by unfold c_beg; simp (disch := omega) only [x_uo, x_uj, x_us]
  have b35 : c_beg C 3 5 = 0 := by unfold c_beg; simp (disch := omega) only [x_uo, x_uj, x_us]
  have b36 : c_beg C 3 6 = -1 := by unfold c_beg; simp (disch := omega) only [x_uo, x_uj, x_us]
  have b37 : c_beg C 3 7 = 0 := by unfold c_beg; simp (disch := omega) only [x_uo, x_uj, x_us]
  have b122 : c_beg C 12 2 = nI 0 := by unfold c_beg; simp (disch := omega) only [x_uo, x_uj, x_us]; rfl
  have b123 : c_beg C 12 3 = nI 0 := by unfold c_beg; simp (disch := omega) only [x_uo, x_uj, x_us]; rfl
  have kb : k_C C (c_beg C) := fun x y q => br x y (by omega)
  have tB : z_tp (c_beg C) M2 n w := ⟨⟨(br _ _ (by omega)).trans h1, (e2 _ _ (by omega)).trans m7⟩, hn, fun j hj => ⟨(br _ _ (by omega)).trans (tb j hj).1, (e2 _ _ (by omega)).trans (m3 j hj)⟩, tw⟩
  generalize c_beg C = D at *
  obtain ⟨C2, f1, f2, f3, f4, f5⟩ := q_mid (s0 := 0) tB (by omega) b113 ⟨⟨e3, e4, e5⟩, e6⟩ (Or.inl ⟨rfl, rfl⟩)
  obtain ⟨a1, a2, a3, a4⟩ := t_a.p (w := w) (n := n) (p := 0) (by omega)
  obtain ⟨fu, ef⟩ : ∃ fu, x_FU = fu + 1 := ⟨x_FU - 1, by rw [x_FU_eq]⟩
  have hfu : 4999 = fu := by have := x_FU_eq; omega
  have kc : k_C C C2 := kb.tr (fun x y q => f2 x y (by omega))
  have km : k_M N M2 := fun x y q => e2 x y (by omega)
  rw [e1, x_v_some, ef, c_L6, if_neg (by decide), f1, x_v_some]
  have g2 : t_a w n 0 < n → fX9_isGlued C2 = some (0, C2) := by
    rcases f5 with ⟨-, -, z, -⟩ | ⟨-, z⟩
    · rw [g10] at z; exact absurd z (by decide)
    · exact z
  generalize t_a w n 0 = a at *
  have t1 : C2 11 1 = nI n := (f2 _ _ (by omega)).trans tB.1.1
  have tbC : ∀ j, j < n → C2 14 j = nI (w j) := fun j hj => (f2 _ _ (by omega)).trans (tB.2.2.1 j hj).1
  have tbM : ∀ j, j < n → M2 3 j = nI (w j) := fun j hj => (tB.2.2.1 j hj).2
  have c34 : C2 3 4 = 0 := (f2 _ _ (by omega)).trans b34
  have c36 : C2 3 6 = -1 := (f2 _ _ (by omega)).trans b36
  have c37 : C2 3 7 = 0 := (f2 _ _ (by omega)).trans b37
  have hbn : t_b w n a ≤ n := by
    by_cases q : a = n
    · unfold t_b; rw [if_pos q]; omega
    · exact (t_b.p (w := w) (by omega)).2.1
  have no : c_B fu C2 0 = some (nI a, C2) → p_hw 0 M2 = some (0, M2) → z_F C N (c_B fu C2 0) (p_A0 M2) := fun X Y => by
    obtain ⟨M3, v1, v2, v3, v4, v5⟩ := p_reads0 (c := 0) (a := a) (by omega) g10 e3 ⟨_, _, e3, e4, by omega, by omega⟩
    have v1' : fX11_reads M2 0 0 = some M3 := v1
    unfold p_A0
    rw [Y, x_b_some, v1', x_v_some]
    have := p_tB (c := 0) v2 v3 v4
    exact Or.inl ⟨a, C2, M3, by omega, X, this, kc, km.tr v5⟩
  by_cases q : a = n
  · subst q
    have es : t_s w a a = 0 := by unfold t_s; rw [if_pos rfl]
    rw [es] at e5
    refine no ?_ (p_word0 _ ⟨_, _, e3, e4, by omega, by omega⟩ e5)
    unfold c_B
    rw [c_end t1 f3 hn (Nat.le_refl _), x_b_some, if_pos rfl, if_neg (by decide)]
    unfold K63
    rw [c36, if_neg (by decide), t1]
  · have ha : a < n := by omega
    obtain ⟨s1, s2, s3, s4, s5⟩ := t_b.p (w := w) ha
    have es : t_s w n a = t_so (w a) := by unfold t_s; rw [if_neg q]
    rw [es] at e5
    obtain ⟨v, v1, v2, v3⟩ := p_word (c := 0) (by omega) hn ha s1 s2 tw e3 e4 e5 tbM
    obtain ⟨u, u1, u2, u3⟩ := c_says (C := C2) (h := 0) (w := w) (by omega) hn s2 (by omega) f3 f4 tbC
    by_cases hh : t_hw w a (t_b w n a) 0
    · rw [v3.mpr hh] at v2
      rw [u3.mpr hh] at u2
      have wl : t_so (w a) ≠ 3 := by
        have e0 := hh.2 0 ((xs_ok 0 (by omega)).2.2.1)
        have h255 := tw a
        have : ∀ b, b < 256 → nI b = xs_b 0 0 → t_so b ≠ 3 := by decide +kernel
        exact this (w a) (by omega) e0
      unfold p_A0
      rw [v2, x_b_some, c_Bt t1 f3 hn ha (g2 ha), c_takesH (w := w) c37 t1 f3 hn ha tw tbC wl, c_hd0 c34 c36, u2, x_b_some, if_neg (by decide : ¬ (1 : Int32) = 0), c36, if_pos rfl, x_b_some, x_zl1, x_b_some, if_neg (by decide : ¬ (1 : Int32) = 0)]
      exact q_begin (a := a) (b := t_b w n a) (e := 0) (tl := 0) (c := 0) (i := 0) (f := fu) (C1 := x_up (x_up C2 3 6 0) 3 7 1) (N := M2) (by omega) (q_stage0 0) (kc.tr (fun x y q => by simp (disch := omega) only [x_uo, x_uj, x_us])) km ⟨⟨by simp (disch := omega) only [x_uo, x_uj, x_us]; exact t1, tB.1.2⟩, hn, fun j hj => ⟨by simp (disch := omega) only [x_uo, x_uj, x_us]; exact tbC j hj, tbM j hj⟩, tw⟩ g10 (by simp (disch := omega) only [x_uo, x_uj, x_us]; exact f4) e4 e5 s1 s2 (Or.inr ⟨by omega, s3.symm⟩) (by simp (disch := omega) only [x_uo, x_uj, x_us]) (by simp (disch := omega) only [x_uo, x_uj, x_us]; rfl) (by simp (disch := omega) only [x_uo, x_uj, x_us]; exact (f2 _ _ (by omega)).trans b33) (by simp (disch := omega) only [x_uo, x_uj, x_us]; exact c34) (by simp (disch := omega) only [x_uo, x_uj, x_us]; exact (f2 _ _ (by omega)).trans b35) (by simp (disch := omega) only [x_uo, x_uj, x_us]; exact (f2 _ _ (by omega)).trans b122) (by simp (disch := omega) only [x_uo, x_uj, x_us]; exact (f2 _ _ (by omega)).trans b123) ((e2 _ _ (by omega)).trans m13) ⟨fun _ => rfl, fun z => by omega⟩ (by omega) (by omega) (by omega) (by omega)
    · have u0 : u = 0 := by rcases u1 with z | z; exact z; exact absurd (u3.mp z) hh
      have v0 : v = 0 := by rcases v1 with z | z; exact z; exact absurd (v3.mp z) hh
      rw [u0] at u2
      rw [v0] at v2
      refine no ?_ v2
      rw [c_Bt t1 f3 hn ha (g2 ha)]
      have tk : fX6_takes C2 = some (0, C2) := by
        by_cases w3 : t_so (w a) = 3
        · unfold fX6_takes
          rw [c37, if_pos rfl, c_isW t1 f3 hn ha tw tbC, x_b_some, if_pos w3, if_pos rfl, x_lb, c36, if_pos rfl]
        · rw [c_takesH (w := w) c37 t1 f3 hn ha tw tbC w3, c_hd0 c34 c36, u2, x_b_some, if_pos rfl, x_b_some, x_zl0]
      rw [tk, x_b_some, if_pos rfl]
      unfold K49
      rw [f3]
theorem r_rows.congB {code ends code' ends' w w' : Nat → Int32} (h : r_rows code ends w) (hc : ∀ j, j < 120 → code' j = code j) (he : ∀ j, j < 3 → ends' j = ends j) (hw : ∀ j, j < 723 → w' j = w j) : r_rows code' ends' w' := by
  obtain ⟨m0, m1, m2, h0, a1, a2, a3, a4, a5, a6, b1, b2, b3⟩ := h.keepB hc he
  exact ⟨m0, m1, m2, h0, (hw _ (by omega)).trans a1, (hw _ (by omega)).trans a2, (hw _ (by omega)).trans a3, a4, a5, a6, b1.cong (fun j hj => hw _ (by omega)), b2.cong (fun j hj => hw _ (by omega)), b3.cong (fun j hj => hw _ (by omega))⟩
theorem p_cpy {M : xM} (k : xM → Option (Int32 × xM)) : ∀ (fu i : Nat), i ≤ 723 → 723 - i < fu → fX11_law_L126 k fu (x_ft M 1 952 i (fun x => M 4 x)) (nI i) = k (x_ft M 1 952 723 (fun x => M 4 x)) := by
  intro fu
  induction fu with
  | zero => intro i _ h; omega
  | succ fu ih =>
    intro i hi hf
    rw [fX11_law_L126]
    by_cases q : i = 723
    · subst q
      rw [if_pos (by decide)]
    · rw [if_neg (show ¬ (723 : Int32) ≤ nI i from u_lie (b := 723) (by omega) (by decide)), u_g (by omega) (by omega), show (952 : Int32) + nI i = nI (952 + i) from nI_add 952 i, u_g (by omega) (by omega), u_c (by omega), u_c (by omega), x_lb, x_lb, u_a1, x_ft_ne (by omega), x_ft_s]
      exact ih (i + 1) (by omega) (by omega)
theorem q_law {C M : xM} (h : Rel C M) : q_Stp (fX10_law C) (fX11_law M) := by
  obtain ⟨n, hn, t2, t3, t4⟩ := h.2.2.1
  have key : ∀ i, ∃ v, v ≤ 255 ∧ (i < n → M 3 i = nI v) := fun i => by
    by_cases q : i < n
    · obtain ⟨v, hv, e⟩ := (t4 i q).2
      exact ⟨v, hv, fun _ => e⟩
    · exact ⟨0, by omega, fun z => absurd z q⟩
  obtain ⟨w, hw⟩ := Classical.axiomOfChoice key
  have m04 : p_M6 M 0 4 = nI 0 := by unfold p_M6; simp (disch := omega) only [x_uo, x_uj, x_us]; rfl
  have mr : ∀ x y, ((x = 0 ∧ (y = 2 ∨ y = 27)) ∨ x = 1 ∨ x = 2 ∨ x = 12 ∨ x = 13 ∨ x = 14) → p_M6 M x y = M x y := fun x y q => by
    unfold p_M6
    by_cases z : x = 0
    · subst z; simp (disch := omega) only [x_uo, x_uj, x_us]
    · simp (disch := omega) only [x_uo, x_uj, x_us]
  rcases q_read (C := C) (M := M) (w := w) t3 t2 hn (fun i hi => ⟨(t4 i hi).1.trans ((hw i).2 hi), (hw i).2 hi⟩) (fun i => (hw i).1) with ⟨q, C', M', h1, h2, h3, h4, h5⟩ | ⟨C', M', tl, h1, h2, h3, h4, h5, h6, h7, h8, h9, h10⟩
  · unfold fX10_law
    rw [h2, h3, x_b_some, x_lb, if_neg (show ¬ nI q = (-1 : Int32) by rw [l_neg (by omega)]; exact id)]
    refine q_mk rfl (h.tape (fun x y z => by simp (disch := omega) only [x_uo, x_uj, x_us]; exact h4 x y (by omega)) (fun x y z => (h5 x y (by omega)).trans (mr x y z)) ⟨0, by omega, (h5 _ _ (by omega)).trans m04, by simp (disch := omega) only [x_uo, x_uj, x_us]; rfl, fun i hi => by omega⟩)
  · obtain ⟨⟨nP, nF, nD, nJ, t, hS, hL, iP, iF, iD, iJ, iR⟩, hR⟩ := id h
    obtain ⟨⟨⟨c0, c1, c2, c3, c4⟩, ⟨s0, s1, s2, s3, s4⟩, ⟨n1, n2, n3, n4, n5⟩⟩, gP, gF, gD, gJ, gR, gL⟩ := id hS
    have cp := p_cpy (M := M') (fun (N : xM) => x_l (x_up N 1 21 (1 : Int32)) fun N2 => some ((N2 0 13), N2)) x_FU 0 (by omega) (by rw [x_FU_eq]; omega)
    rw [x_ft_0] at cp
    have Z : fX11_law M = some (nI tl, x_up (x_ft M' 1 952 723 (fun x => M' 4 x)) 1 21 1) := by
      rw [h2]
      unfold p_A4
      rw [if_pos h3]
      refine (Eq.trans ?_ cp).trans ?_
      · rfl
      · rw [x_lb, show x_up (x_ft M' 1 952 723 (fun x => M' 4 x)) 1 21 1 0 13 = nI tl by simp (disch := omega) only [x_uo, x_uj, x_us]; rw [x_ft_ne (by omega)]; exact h5]
    have cC : ∀ x y, (x = 0 ∨ x = 1 ∨ x = 2 ∨ (5 ≤ x ∧ x ≤ 10) ∨ (11 = x ∧ y = 1) ∨ x = 14 ∨ (19 ≤ x ∧ x ≤ 27) ∨ (31 ≤ x ∧ x ≤ 193) ∨ 197 ≤ x) → C' x y = C x y := fun x y z => h9 x y (by omega)
    have cM : ∀ x y, ((x = 0 ∧ (y = 2 ∨ y = 27)) ∨ x = 1 ∨ x = 2 ∨ x = 12 ∨ x = 13 ∨ x = 14) → M' x y = M x y := fun x y z => (h10 x y (by omega)).trans (mr x y z)
    have bec : ∃ D, fX3_become (x_up C' 11 1 0) 25 12 = some D ∧ (∀ x y, ¬ (x = 11 ∨ x = 25 ∨ x = 26 ∨ x = 27) → D x y = C' x y) ∧ D 11 1 = 0 ∧ D 25 3 = nI tl ∧ (∀ j, j < 120 → D 26 j = C' 15 j) ∧ (∀ j, j < 3 → D 27 j = C' 16 j) := by
      unfold fX3_become
      have x1 : xr 0 12 0 = 15 := rfl
      have x2 : xr 0 12 1 = 16 := rfl
      have x3 : xr 0 25 0 = 26 := rfl
      have x4 : xr 0 25 1 = 27 := rfl
      rw [x1, x2, x3, x4]
      refine ⟨x_up (x_up (x_mv (x_mv (x_up C' 11 1 0) 15 26 0 0 120) 16 27 0 0 3) 25 2 (x_mv (x_mv (x_up C' 11 1 0) 15 26 0 0 120) 16 27 0 0 3 12 2)) 25 3 (x_up (x_mv (x_mv (x_up C' 11 1 0) 15 26 0 0 120) 16 27 0 0 3) 25 2 (x_mv (x_mv (x_up C' 11 1 0) 15 26 0 0 120) 16 27 0 0 3 12 2) 12 3), rfl, fun x y z => ?_, ?_, ?_, fun j hj => ?_, fun j hj => ?_⟩
      · simp (disch := omega) only [x_uo, x_uj, x_us, x_mv_ne]
      · simp (disch := omega) only [x_uo, x_uj, x_us, x_mv_ne]
      · simp (disch := omega) only [x_uo, x_uj, x_us, x_mv_ne]
        exact h4
      · simp (disch := omega) only [x_uo, x_mv_ne]
        rw [x_mv_at hj]
        simp (disch := omega) only [x_uo, x_uj, x_us]
      · simp (disch := omega) only [x_uo]
        rw [x_mv_at hj]
        simp (disch := omega) only [x_uo, x_uj, x_us, x_mv_ne]
    obtain ⟨D, d1, d2, d3, d4, d5, d6⟩ := bec
    unfold fX10_law
    rw [h1, Z, x_b_some, x_lb, if_pos rfl, d1, x_v_some]
    have eS : ∀ j, ¬ (j = 21 ∨ 952 ≤ j) → x_up (x_ft M' 1 952 723 (fun x => M' 4 x)) 1 21 1 1 j = M 1 j := fun j z => by
      rw [x_uj (by omega), x_ft_out (by omega)]
      exact cM 1 j (by omega)
    have eM : ∀ x y, x ≠ 1 → x_up (x_ft M' 1 952 723 (fun x => M' 4 x)) 1 21 1 x y = M' x y := fun x y z => by rw [x_uo z, x_ft_ne z]
    have eC : ∀ x y, (x = 0 ∨ x = 1 ∨ x = 2 ∨ (5 ≤ x ∧ x ≤ 10) ∨ x = 14 ∨ (19 ≤ x ∧ x ≤ 24) ∨ (31 ≤ x ∧ x ≤ 193) ∨ 197 ≤ x) → D x y = C x y := fun x y z => (d2 x y (by omega)).trans (cC x y (by omega))
    refine q_mk d4 ⟨⟨nP, nF, nD, nJ, t, ?_, ?_, ?_⟩, ?_, ⟨0, by omega, (eM _ _ (by omega)).trans ((h10 _ _ (by omega)).trans m04), d3, fun i hi => by omega⟩, ?_, ?_, ?_⟩
    · refine ⟨⟨?_, ?_, n1, n2, n3, n4, n5⟩, gP.keep (fun i j hi hj => eC _ _ (by omega)) (fun i j hi hj => eS _ (by omega)), gF.keep (fun i j hi hj => eC _ _ (by omega)) (fun i j hi hj => eS _ (by omega)), gD.keep (fun i j hi hj => eC _ _ (by omega)) (fun i j hi hj => eS _ (by omega)), gJ.keep (fun i j hi hj => eC _ _ (by omega)) (fun i j hi hj => eS _ (by omega)), gR.keep (fun j hj => eC _ _ (by omega)) (fun j hj => eS _ (by omega)), gL.keep (fun j hj => eC _ _ (by omega)) (fun j hj => eS _ (by omega))⟩
      · exact ⟨(eC _ _ (by omega)).trans c0, (eC _ _ (by omega)).trans c1, (eC _ _ (by omega)).trans c2, (eC _ _ (by omega)).trans c3, (eC _ _ (by omega)).trans c4⟩
      · exact ⟨(eS _ (by omega)).trans s0, (eS _ (by omega)).trans s1, (eS _ (by omega)).trans s2, (eS _ (by omega)).trans s3, (eS _ (by omega)).trans s4⟩
    · refine Or.inr ⟨by simp (disch := omega) only [x_uo, x_uj, x_us], ?_, h8.congB (fun j hj => d5 j hj) (fun j hj => d6 j hj) (fun j hj => ?_)⟩
      · rw [show D (25 + 0) 3 = nI tl from d4]
        exact nI_lt (a := 0) h6 (by omega)
      · show x_up (x_ft M' 1 952 723 (fun x => M' 4 x)) 1 21 1 1 (952 + j) = M' 4 j
        rw [x_uj (by omega), x_ft_in (by omega) (by omega), Nat.add_sub_cancel_left]
    · exact ⟨iP.keep (fun i j hi hj => eS _ (by omega)), iF.keep (fun i j hi hj => eS _ (by omega)), iD.keep (Nat.le_refl _) (Nat.le_refl _) (fun i j hi hj => eS _ (by omega)), iJ.keep (Nat.le_refl _) (Nat.le_refl _) (fun i j hi hj => eS _ (by omega)), iR.keep (fun j hj => eS _ (by omega)) (fun j hj => eS _ (by omega))⟩
    · exact h.2.1.keep (eC _ _ (by omega)) (fun j => eC _ _ (by omega)) (fun x y z => eC _ _ (by omega)) ((eM _ _ (by omega)).trans (cM _ _ (by omega))) (fun j => (eM _ _ (by omega)).trans (cM _ _ (by omega)))
    · exact h.2.2.2.1.keep (eC _ _ (by omega)) (fun j => eC _ _ (by omega)) ((eM _ _ (by omega)).trans (cM _ _ (by omega))) (fun j => (eM _ _ (by omega)).trans (cM _ _ (by omega)))
    · exact h.2.2.2.2.1.keep (fun j => eC _ _ (by omega)) (fun j => eC _ _ (by omega)) (fun j => eC _ _ (by omega)) (fun j => (eM _ _ (by omega)).trans (cM _ _ (by omega))) (fun j => (eM _ _ (by omega)).trans (cM _ _ (by omega)))
    · exact h.2.2.2.2.2.keep (fun j => eC _ _ (by omega)) (fun j => eC _ _ (by omega)) (fun j => eC _ _ (by omega)) (fun j => (eM _ _ (by omega)).trans (cM _ _ (by omega))) (fun j => (eM _ _ (by omega)).trans (cM _ _ (by omega)))
