/-! the reference's law, in stages -/
noncomputable def p_A4 (M : xM) : Option (Int32 × xM) := if M 0 10 = 0 then fX11_law_L126 (fun (N : xM) => x_l (x_up N 1 21 (1 : Int32)) fun N2 => some ((N2 0 13), N2)) x_FU M (0 : Int32) else some (((-100 : Int32) - (M 0 9)), M)
noncomputable def p_A3 (M : xM) : Option (Int32 × xM) := if M 0 10 = 0 then (if M 0 8 = 0 then p_A4 M else (x_v (fX11_wrong M) fun N => p_A4 N)) else p_A4 M
noncomputable def p_A2 (M : xM) : Option (Int32 × xM) := x_b (p_hw 2 M) fun v N => x_v (fX11_reads N 2 v) p_A3
noncomputable def p_A1 (M : xM) : Option (Int32 × xM) := x_b (p_hw 1 M) fun v N => x_v (fX11_reads N 1 v) p_A2
noncomputable def p_A0 (M : xM) : Option (Int32 × xM) := x_b (p_hw 0 M) fun v N => x_v (fX11_reads N 0 v) p_A1
noncomputable def p_M6 (M : xM) : xM := x_up (x_up (x_up (x_up (x_up (x_up M 0 7 (M 0 4)) 0 4 0) 0 6 0) 0 8 0) 0 10 0) 0 13 0
theorem p_law (M : xM) : fX11_law M = x_v (fX11_next (p_M6 M)) p_A0 := by
  unfold fX11_law
  rfl
noncomputable def p_T (c : Nat) : xM → Option (Int32 × xM) := if c = 0 then p_A1 else if c = 1 then p_A2 else p_A3
noncomputable def kE : xM → Option xM := fun M => if M 0 10 = 0 then (x_v (fX11_works M (1 : Int32)) fun N => some N) else some M
noncomputable def E8 (c : Nat) (M : xM) : Option xM := x_g ((241 : Int32) * nI c) 723 (some (x_up M 4 ((241 : Int32) * nI c).toNatClampNeg (M 0 12)))
theorem E8_eq {c : Nat} (hc : c < 3) (M : xM) : E8 c M = some (x_up M 4 (241 * c) (M 0 12)) := by
  unfold E8
  rw [show (241 : Int32) * nI c = nI (241 * c) from pk_mul 241 c, u_g (by omega) (by omega), u_c (by omega)]
theorem p_reads1 {M : xM} {c : Nat} (h : M 0 10 = 0) : fX11_reads M (nI c) 1 = x_v (fX11_next (x_up (x_up M 0 11 (nI c)) 0 12 0)) fun N => x_v (fX11_expression_L19 kE x_FU (x_up (x_up (x_up N 0 16 0) 0 17 0) 0 18 0) 1 1) (E8 c) := by
  unfold fX11_reads
  rw [if_pos h, x_lb, x_lb, x_lb, if_neg (by decide)]
  rfl
theorem p_readsB {M : xM} {z v : Int32} (h : M 0 10 = 1) : fX11_reads M z v = some M := by
  unfold fX11_reads
  rw [h, if_neg (by decide)]
theorem p_nextB {M : xM} (h : M 0 10 = 1) : fX11_next M = some M := by
  rw [n_eq, h, if_neg (by decide)]
/-- the heading isn't there -/
theorem p_reads0 {M : xM} {c a : Nat} (hc : c < 3) (h : M 0 10 = 0) (h5 : M 0 5 = nI a) (hp : z_ps M) : ∃ M', fX11_reads M (nI c) 0 = some M' ∧ M' 0 10 = 1 ∧ M' 0 9 = nI a ∧ z_ps M' ∧ k_M M M' := by
  obtain ⟨x, y, e1, e2, e3, e4⟩ := hp
  have w := p_wrong (M := x_up (x_up M 0 11 (nI c)) 0 12 0) (by simp (disch := omega) only [x_uo, x_uj, x_us]; exact h)
  unfold fX11_reads
  rw [if_pos h, x_lb, x_lb, x_lb, if_pos rfl, w, x_v_some]
  show ∃ M', x_v (fX11_next _) _ = some M' ∧ _
  rw [p_nextB (by simp (disch := omega) only [x_uo, x_uj, x_us]), x_v_some]
  unfold fX11_expression
  rw [x_lb, x_lb, x_lb, x_lb, p_L19bad (by simp (disch := omega) only [x_uo, x_uj, x_us]) (by rw [x_FU_eq]; omega)]
  rw [if_neg (by simp (disch := omega) only [x_uo, x_uj, x_us]; decide), x_v_some]
  have := E8_eq hc (x_up (x_up (x_up (x_up (x_up (x_up (x_up M 0 11 (nI c)) 0 12 0) 0 9 (x_up (x_up M 0 11 (nI c)) 0 12 0 0 5)) 0 10 1) 0 16 0) 0 17 0) 0 18 0)
  unfold E8 at this
  refine ⟨_, this, by simp (disch := omega) only [x_uo, x_uj, x_us], by simp (disch := omega) only [x_uo, x_uj, x_us]; exact h5, ⟨x, y, by simp (disch := omega) only [x_uo, x_uj, x_us]; exact e1, by simp (disch := omega) only [x_uo, x_uj, x_us]; exact e2, e3, e4⟩, fun a b q => ?_⟩
  by_cases z : a = 0
  · subst z; simp (disch := omega) only [x_uo, x_uj, x_us]
  · simp (disch := omega) only [x_uo, x_uj, x_us]
theorem p_tB {M : xM} {q c : Nat} (h : M 0 10 = 1) (h9 : M 0 9 = nI q) (hp : z_ps M) : p_T c M = some (-100 - nI q, M) := by
  have t4 : p_A4 M = some (-100 - nI q, M) := by
    unfold p_A4
    rw [h, if_neg (by decide), h9]
  have t3 : p_A3 M = some (-100 - nI q, M) := by
    unfold p_A3
    rw [h, if_neg (by decide)]
    exact t4
  obtain ⟨v2, e2⟩ := p_wordD hp 2
  have t2 : p_A2 M = some (-100 - nI q, M) := by
    unfold p_A2
    rw [e2, x_b_some, p_readsB h, x_v_some]
    exact t3
  obtain ⟨v1, e1⟩ := p_wordD hp 1
  have t1 : p_A1 M = some (-100 - nI q, M) := by
    unfold p_A1
    rw [e1, x_b_some, p_readsB h, x_v_some]
    exact t2
  unfold p_T
  split
  · exact t1
  · split
    · exact t2
    · exact t3
def z_F (C0 M0 : xM) (X Z : Option (Int32 × xM)) : Prop := (∃ q C' M', q ≤ 120 ∧ X = some (nI q, C') ∧ Z = some (-100 - nI q, M') ∧ k_C C0 C' ∧ k_M M0 M') ∨ (∃ C' M' tl, X = some (-1, C') ∧ Z = p_A4 M' ∧ M' 0 10 = 0 ∧ C' 12 3 = nI tl ∧ M' 0 13 = nI tl ∧ 0 < tl ∧ tl ≤ 120 ∧ r_rows (C' 15) (C' 16) (M' 4) ∧ k_C C0 C' ∧ k_M M0 M')
theorem z_F.tr {C0 M0 C1 M1 : xM} {X Z : Option (Int32 × xM)} (h : z_F C1 M1 X Z) (hc : k_C C0 C1) (hm : k_M M0 M1) : z_F C0 M0 X Z := by
  rcases h with ⟨q, C', M', h1, h2, h3, h4, h5⟩ | ⟨C', M', tl, h1, h2, h3, h4, h5, h6, h7, h8, h9, h10⟩
  · exact Or.inl ⟨q, C', M', h1, h2, h3, hc.tr h4, hm.tr h5⟩
  · exact Or.inr ⟨C', M', tl, h1, h2, h3, h4, h5, h6, h7, h8, hc.tr h9, hm.tr h10⟩
/-- a row that is at its end: all that is held is written -/
theorem q_close {C M : xM} {n a c e wm tl nt : Nat} {w : Nat → Nat} {L : List Nat} (hG : z_G C M n w a c e wm tl 0 nt L false) : ∃ C1 M1 wm1, fX6_release C 1 = some C1 ∧ fX11_works M 1 = some M1 ∧ z_S C1 M1 c e wm1 1 tl 0 0 [] ∧ e + wm1 ≤ a ∧ (∀ x y, ¬ (x = 15 ∨ (x = 12 ∧ y = 2) ∨ (x = 3 ∧ y = 3)) → C1 x y = C x y) ∧ (∀ x y, ¬ (x = 4 ∨ (x = 0 ∧ (y = 12 ∨ y = 16))) → M1 x y = M x y) := by
  obtain ⟨ht, ⟨-, -, han⟩, -, -, hS, hz, htl, hwt⟩ := id hG
  obtain ⟨hh3, htl0⟩ := hwt rfl
  have hn := ht.2.1
  obtain ⟨C1, M1, L1, wm1, r1, r2, r3, r4, r5, r6, r7, r8⟩ := q_rel (t := 1) (by omega) (by omega) L C M wm 0 x_FU x_FU hS hh3 (by omega) (by omega) (by rw [x_FU_eq]; omega) (by rw [x_FU_eq]; omega)
  obtain ⟨-, ⟨f1, f2, f6, f7⟩, -⟩ := id r3
  have hL1 : L1 = [] := by
    cases L1 with
    | nil => rfl
    | cons x r =>
      have h1 := r5 x rfl
      have h2 : x ≠ 3 := fun z => r4 (by rw [z]; rfl)
      have h4 := f1.1
      have h6 : (if x = 1 then 1 else 0) + z_ct 1 r = 0 := f6
      rcases h4 with z | z | z | z | z | z | z | z | z | z | z
      · rw [if_pos z] at h6; omega
      · exact absurd z h2
      all_goals (subst z; exact absurd h1 (by decide))
  subst hL1
  obtain rfl : nt = 0 := f7.symm
  have r6' : wm1 + 0 = wm + L.length := r6
  exact ⟨C1, M1, wm1, r1, r2, r3, by omega, r7, r8⟩
/-- the class at a token that goes on with no row: nothing is taken -/
theorem c_no {C : xM} {n a c f i : Nat} {w : Nat → Nat} (h37 : C 3 7 = 0) (h6 : C 3 6 = nI c) (hc : c < 3) (h4 : C 3 4 = 0) (h1 : C 11 1 = nI n) (h2 : C 11 2 = nI a) (hn : n ≤ 120) (ha : a < n) (hw : ∀ i, w i ≤ 255) (hb : ∀ i, i < n → C 14 i = nI (w i)) (hg : fX9_isGlued C = some (0, C)) (hs : t_so (w a) ≠ 3 ∨ z_sc (w a) = 0) (hh : t_so (w a) ≠ 3 → fX6_takesHeading C = some (0, C)) : c_B f C (nI i) = some (nI a, C) := by
  have h255 := hw a
  rw [c_Bt h1 h2 hn ha hg]
  have tk : fX6_takes C = some (0, C) := by
    by_cases w3 : t_so (w a) = 3
    · have sc0 := hs.resolve_left (not_not_intro w3)
      rw [c_takesS (w := w) h37 h6 hc h1 h2 hn ha hw hb w3]
      unfold fX6_takesSign fX6_closes
      have e41 : (nI (w a) = (41 : Int32)) = (w a = 41) := l_eqn (b := 41) (by omega) (by decide)
      by_cases c41 : w a = 41
      · rw [if_pos (by rw [e41]; exact c41), h4, if_pos rfl, x_b_some, x_zl0, x_b_some, if_pos rfl]
      · rw [if_neg (by rw [e41]; exact c41), c_ttb C (by omega), x_b_some, sc0, if_pos (show nI (0 / 10) = (0 : Int32) from rfl), x_b_some, if_pos rfl]
    · rw [c_takesH (w := w) h37 h1 h2 hn ha hw hb w3, hh w3, x_b_some, x_zl0]
  rw [tk, x_b_some, if_pos rfl]
  unfold K49
  rw [h2]
/-- a row begins -/
theorem q_begin {n c e tl a b i f : Nat} {w : Nat → Nat} {C1 N C0 M0 : xM} (hc : c < 3)
    (stage : ∀ (C M : xM) (a wm tl pr nt : Nat) (L : List Nat) (wt : Bool) (i f : Nat), z_G C M n w a c e wm tl pr nt L wt → i ≤ a → n - a < f → z_F C M (c_B f C (nI i)) (x_v (x_v (fX11_expression_L19 kE x_FU M (bI wt) 1) (E8 c)) (p_T c)))
    (hC : k_C C0 C1) (hM : k_M M0 N) (ht : z_tp C1 N n w) (h10 : N 0 10 = 0) (h3 : C1 11 3 = nI b) (h6 : N 0 6 = nI b) (h8 : N 0 8 = nI (t_so (w a))) (hab : a < b) (hbn : b ≤ n) (hpt : t_pt w b (t_so (w a)))
    (c37 : C1 3 7 = 1) (c36 : C1 3 6 = nI c) (c33 : C1 3 3 = 0) (c34 : C1 3 4 = 0) (c35 : C1 3 5 = 0) (c122 : C1 12 2 = nI e) (c123 : C1 12 3 = nI tl) (m13 : N 0 13 = nI tl) (hpv : z_pv C1 N c e) (he : e ≤ b) (htl : tl ≤ b) (hi : i + 1 ≤ b) (hf : n - b + 1 < f) :
    z_F C0 M0 (fX6_findFault_L6 K63 K63 K49 f C1 (nI i + 1)) (x_v (fX11_reads N (nI c) 1) (p_T c)) := by
  obtain ⟨⟨t1, t2⟩, hn, tb, tw⟩ := id ht
  have hso := t_so.le (w a)
  obtain ⟨M2, m1, m2, m3, m4, m5, m6⟩ := p_next (M := x_up (x_up N 0 11 (nI c)) 0 12 0) (n := n) (p := b) (s0 := t_so (w a)) (w := w) hn tw hbn (by simp (disch := omega) only [x_uo, x_uj, x_us]; exact h10) (by simp (disch := omega) only [x_uo, x_uj, x_us]; exact h6) (by simp (disch := omega) only [x_uo, x_uj, x_us]; exact t2) (by simp (disch := omega) only [x_uo, x_uj, x_us]; exact h8) (by omega) (fun j hj => by simp (disch := omega) only [x_uo, x_uj, x_us]; exact (tb j hj).2)
  rw [p_reads1 h10, m1, x_v_some]
  have rd : ∀ x y, ¬ (x = 0 ∧ (y = 5 ∨ y = 6 ∨ y = 8 ∨ y = 9 ∨ y = 10 ∨ y = 11 ∨ y = 12 ∨ y = 16 ∨ y = 17 ∨ y = 18)) → x_up (x_up (x_up M2 0 16 0) 0 17 0) 0 18 0 x y = N x y := fun x y q => by
    have h0 := m2 x y (by omega)
    by_cases z : x = 0
    · subst z
      have : x_up (x_up N 0 11 (nI c)) 0 12 0 0 y = N 0 y := by simp (disch := omega) only [x_uo, x_uj, x_us]
      simp (disch := omega) only [x_uo, x_uj, x_us]
      rw [h0, this]
    · have : x_up (x_up N 0 11 (nI c)) 0 12 0 x y = N x y := by simp (disch := omega) only [x_uo, x_uj, x_us]
      simp (disch := omega) only [x_uo, x_uj, x_us]
      rw [h0, this]
  have hN : z_N (x_up (x_up (x_up M2 0 16 0) 0 17 0) 0 18 0) n w b (t_so (w a)) := z_N.keep (M := M2) ⟨⟨m3, m4, m5⟩, m6⟩ (fun y q => by simp (disch := omega) only [x_uo, x_uj, x_us])
  have ht2 : z_tp C1 (x_up (x_up (x_up M2 0 16 0) 0 17 0) 0 18 0) n w := ⟨⟨t1, (rd _ _ (by omega)).trans t2⟩, hn, fun j hj => ⟨(tb j hj).1, (rd _ _ (by omega)).trans (tb j hj).2⟩, tw⟩
  have m11 : x_up (x_up (x_up M2 0 16 0) 0 17 0) 0 18 0 0 11 = nI c := by
    simp (disch := omega) only [x_uo, x_uj, x_us]
    rw [m2 _ _ (by omega)]
    simp (disch := omega) only [x_uo, x_uj, x_us]
  have m12 : x_up (x_up (x_up M2 0 16 0) 0 17 0) 0 18 0 0 12 = nI 0 := by
    simp (disch := omega) only [x_uo, x_uj, x_us]
    rw [m2 _ _ (by omega)]
    simp (disch := omega) only [x_uo, x_uj, x_us]
    rfl
  have m16 : x_up (x_up (x_up M2 0 16 0) 0 17 0) 0 18 0 0 16 = nI 0 := by simp (disch := omega) only [x_uo, x_uj, x_us]; rfl
  have m17 : x_up (x_up (x_up M2 0 16 0) 0 17 0) 0 18 0 0 17 = nI 0 := by simp (disch := omega) only [x_uo, x_uj, x_us]; rfl
  have m18 : x_up (x_up (x_up M2 0 16 0) 0 17 0) 0 18 0 0 18 = nI 0 := by simp (disch := omega) only [x_uo, x_uj, x_us]; rfl
  have hm : k_M N (x_up (x_up (x_up M2 0 16 0) 0 17 0) 0 18 0) := fun x y q => rd x y (by omega)
  have hS : z_S C1 (x_up (x_up (x_up M2 0 16 0) 0 17 0) 0 18 0) c e 0 0 tl 0 0 [] := ⟨⟨⟨c122, m12⟩, ⟨c36, m11⟩, ⟨c33, m16⟩, ⟨c34, m17⟩, ⟨c35, m18⟩, ⟨c123, (rd _ _ (by omega)).trans m13⟩⟩, ⟨trivial, trivial, rfl, rfl⟩, ⟨fun k hk => by omega, rfl⟩, ⟨hc, by omega, by omega⟩, hpv.keep (fun _ _ => rfl) (fun _ _ => rfl) (fun k _ => rd _ _ (by omega))⟩
  generalize x_up (x_up (x_up M2 0 16 0) 0 17 0) 0 18 0 = M3 at *
  obtain ⟨C2, e1, e2, e3, e4, e5⟩ := q_mid ht2 hbn h3 hN hpt
  obtain ⟨a1, a2, a3, a4⟩ := t_a.p (w := w) hbn
  obtain ⟨f1, rfl⟩ : ∃ f1, f = f1 + 1 := ⟨f - 1, by omega⟩
  have kc : k_C C1 C2 := fun x y q => e2 x y (by omega)
  rw [c_L6, u_a1, if_neg (show ¬ (120 : Int32) < nI (i + 1) by
    intro z
    have : (nI 120 : Int32) < nI (i + 1) := z
    rw [l_ltn (by omega) (by omega)] at this
    omega), e1, x_v_some]
  rcases e5 with ⟨g1, g2, g3, g4⟩ | ⟨g1, g2⟩
  · have hb2 := (t_b.p (w := w) g1).2.1
    refine Or.inl ⟨t_a w n b, C2, x_up M3 4 (241 * c) (M3 0 12), by omega, ?_, ?_, hC.tr kc, hM.tr (hm.tr (fun x y q => by simp (disch := omega) only [x_uo, x_uj, x_us]))⟩
    · unfold c_B
      rw [c_end (n := n) (a := t_a w n b) ((e2 _ _ (by omega)).trans t1) e3 hn a2, x_b_some, if_neg (show ¬ t_a w n b = n by omega), if_pos rfl, g2, x_b_some, if_neg (by decide : ¬ (1 : Int32) = 0)]
      unfold K49
      rw [e3]
    · rw [p_L19bad g3 (by rw [x_FU_eq]; omega)]
      unfold kE
      rw [g3, if_neg (by decide), x_v_some, E8_eq hc, x_v_some]
      exact p_tB (by simp (disch := omega) only [x_uo, x_uj, x_us]; exact g3) (by simp (disch := omega) only [x_uo, x_uj, x_us]; exact g4) ⟨_, _, by simp (disch := omega) only [x_uo, x_uj, x_us]; exact hN.1.1, by simp (disch := omega) only [x_uo, x_uj, x_us]; exact hN.1.2.1, by omega, by omega⟩
  · exact z_F.tr (stage C2 M3 (t_a w n b) 0 tl 0 0 [] true (i + 1) f1 ⟨⟨⟨(e2 _ _ (by omega)).trans t1, ht2.1.2⟩, hn, fun j hj => ⟨(e2 _ _ (by omega)).trans (tb j hj).1, (ht2.2.2.1 j hj).2⟩, tw⟩, ⟨⟨e3, e4⟩, hN.1, a2⟩, ⟨g1, g2⟩, (e2 _ _ (by omega)).trans c37, hS.keep (fun x y q => e2 x y (by omega)) (fun _ _ _ => rfl), ⟨by show e + 0 + 0 ≤ _; omega, by omega, fun z => by cases z⟩⟩ (by omega) (by omega)) (hC.tr kc) (hM.tr hm)
