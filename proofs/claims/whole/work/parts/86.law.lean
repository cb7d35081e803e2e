theorem c_hd {C : xM} {c : Nat} (hc : c < 2) (h4 : C 3 4 = 0) (h6 : C 3 6 = nI c) : fX6_takesHeading C = x_b (fX9_says C (c + 1)) fun v N => if v = 0 then (some ((0 : Int32), N)) else (if (N 3 6) = (-1 : Int32) then some ((1 : Int32), x_up (x_up N 3 6 ((N 3 6) + (1 : Int32))) 3 7 1) else (x_v (fX6_endSection N) fun N2 => some ((1 : Int32), x_up (x_up N2 3 6 ((N2 3 6) + (1 : Int32))) 3 7 1))) := by
  unfold fX6_takesHeading
  have e : xs_hd (nI c + 1) = c + 1 := by
    rcases (show c = 0 ∨ c = 1 by omega) with rfl | rfl <;> decide
  rw [h4, if_neg (by decide), h6, if_neg (show ¬ (2 : Int32) ≤ nI c by rw [kn2_el (by omega)]; omega), e]
  rfl
theorem c_endS {C C1 : xM} {c z : Nat} (hc : c < 3) (hr : fX6_release C 1 = some C1) (h6 : C1 3 6 = nI c) (h2 : C1 12 2 = nI z) : fX6_endSection C = some (x_up C1 16 c (nI z)) := by
  unfold fX6_endSection
  rw [hr, x_v_some, h6, u_g (by omega) (by omega), u_c (by omega), h2, x_lb]
/-- a fault in a row -/
theorem q_fault {C M C' M' : xM} {c q : Nat} {X : Option (Int32 × xM)} (hc : c < 3) (hq : q ≤ 120) (h1 : X = some (nI q, C')) (h10 : M' 0 10 = 1) (h9 : M' 0 9 = nI q) (hp : z_ps M') (kc : k_C C C') (km : k_M M M') : z_F C M X (x_v (x_v (kE M') (E8 c)) (p_T c)) := by
  refine Or.inl ⟨q, C', x_up M' 4 (241 * c) (M' 0 12), hq, h1, ?_, kc, km.tr (fun x y z => by simp (disch := omega) only [x_uo, x_uj, x_us])⟩
  unfold kE
  rw [h10, if_neg (by decide), x_v_some, E8_eq hc, x_v_some]
  obtain ⟨x, y, e1, e2, e3, e4⟩ := hp
  exact p_tB (by simp (disch := omega) only [x_uo, x_uj, x_us]; exact h10) (by simp (disch := omega) only [x_uo, x_uj, x_us]; exact h9) ⟨x, y, by simp (disch := omega) only [x_uo, x_uj, x_us]; exact e1, by simp (disch := omega) only [x_uo, x_uj, x_us]; exact e2, e3, e4⟩
theorem q_stage2 {n e : Nat} {w : Nat → Nat} : ∀ (C M : xM) (a wm tl pr nt : Nat) (L : List Nat) (wt : Bool) (i f : Nat), z_G C M n w a 2 e wm tl pr nt L wt → i ≤ a → n - a < f → z_F C M (c_B f C (nI i)) (x_v (x_v (fX11_expression_L19 kE x_FU M (bI wt) 1) (E8 2)) (p_T 2)) := by
  intro C M a wm tl pr nt L wt i f hG hi hf
  have hn := hG.1.2.1
  rcases q_sim (k := kE) (n - a) C M a wm tl pr nt L wt i f x_FU (Nat.le_refl _) hG hi hf (by rw [x_FU_eq]; omega) with ⟨q, C', M', h1, h2, h3, h4, h5, h5', h6, h7⟩ | ⟨C', M', a', wm', tl', nt', L', i', f', h1, h2, h3, h4, h5, h6, h7, h8⟩
  · rw [h3]
    exact q_fault (by omega) h1 h2 h4 h5 h5' h6 h7
  · rw [h1, h2]
    obtain ⟨C1, M1, wm1, r1, r2, r3, r4, r5, r6⟩ := q_close h3
    obtain ⟨⟨⟨t1, t2⟩, -, tb, tw⟩, ⟨⟨p2, p3⟩, ⟨q5, q6, q8⟩, han⟩, ⟨g1, g2⟩, h37, hS', hz', htl', hwt'⟩ := id h3
    obtain ⟨⟨⟨d1, d2⟩, ⟨d3, d4⟩, ⟨d5, d6⟩, ⟨d7, d8⟩, ⟨d9, d10⟩, ⟨d11, d12⟩⟩, ⟨f1, -⟩, f3, f4, f5⟩ := id r3
    have kc1 : k_C C' C1 := fun x y q => r5 x y (by omega)
    have km1 : k_M M' (x_up M1 4 (241 * 2) (M1 0 12)) := fun x y q => by
      have h0 := r6 x y (by omega)
      simp (disch := omega) only [x_uo, x_uj, x_us]
      exact h0
    have Z : x_v (x_v (kE M') (E8 2)) (p_T 2) = p_A3 (x_up M1 4 (241 * 2) (M1 0 12)) := by
      unfold kE
      rw [if_pos g1, r2, x_v_some, x_v_some, E8_eq (by omega), x_v_some]
      rfl
    rw [Z]
    have z10 : x_up M1 4 (241 * 2) (M1 0 12) 0 10 = 0 := by simp (disch := omega) only [x_uo, x_uj, x_us]; exact (r6 _ _ (by omega)).trans g1
    have z8 : x_up M1 4 (241 * 2) (M1 0 12) 0 8 = nI (t_s w n a') := by simp (disch := omega) only [x_uo, x_uj, x_us]; exact (r6 _ _ (by omega)).trans q8
    have z5 : x_up M1 4 (241 * 2) (M1 0 12) 0 5 = nI a' := by simp (disch := omega) only [x_uo, x_uj, x_us]; exact (r6 _ _ (by omega)).trans q5
    unfold p_A3
    rw [if_pos z10, z8]
    by_cases q : a' = n
    · subst q
      have es : t_s w a' a' = 0 := by unfold t_s; rw [if_pos rfl]
      rw [es, if_pos (show nI 0 = (0 : Int32) from rfl)]
      have c34 : C' 3 4 = 0 := (r5 _ _ (by omega)).symm.trans d7
      have c36 : C' 3 6 = nI 2 := (r5 _ _ (by omega)).symm.trans d3
      have X : c_B f' C' (nI i') = some (-1, x_up C1 16 2 (nI (e + wm1))) := by
        unfold c_B
        rw [c_end t1 p2 hn (Nat.le_refl _), x_b_some, if_pos rfl, if_neg (by decide)]
        unfold K63
        rw [c36, if_pos (show nI 2 = (2 : Int32) from rfl), h37, if_pos (show bI false = 0 from rfl), c34, if_pos (by decide), c_endS (by omega) r1 d3 d1, x_v_some]
      obtain ⟨n0, o1, o2, o3, o4, -, o6⟩ := f5.2 (by omega)
      obtain ⟨n1, u1, u2, u3, u4, u5⟩ := o6 (by omega)
      refine Or.inr ⟨_, _, tl', X, rfl, z10, by simp (disch := omega) only [x_uo, x_uj, x_us]; exact d11, by simp (disch := omega) only [x_uo, x_uj, x_us]; exact d12, (hwt' rfl).2, by omega, ⟨n0, n1, wm1, by omega, by simp (disch := omega) only [x_uo, x_uj, x_us]; exact o2, by simp (disch := omega) only [x_uo, x_uj, x_us]; exact u2, by simp (disch := omega) only [x_uo, x_uj, x_us]; exact d2, by simp (disch := omega) only [x_uo, x_uj, x_us]; exact o1, by simp (disch := omega) only [x_uo, x_uj, x_us]; exact u1, by simp (disch := omega) only [x_uo, x_uj, x_us]; rw [u5], ?_, ?_, ?_⟩, h7.tr (kc1.tr (fun x y q => by simp (disch := omega) only [x_uo, x_uj, x_us])), h8.tr km1⟩
      · exact (o3.keepC (fun k hk => by simp (disch := omega) only [x_uo, x_uj, x_us])).cong (fun j hj => by simp (disch := omega) only [x_uo, x_uj, x_us])
      · exact (u3.keepC (fun k hk => by simp (disch := omega) only [x_uo, x_uj, x_us])).cong (fun j hj => by simp (disch := omega) only [x_uo, x_uj, x_us])
      · have hw := f3.keep (C' := x_up C1 16 2 (nI (e + wm1))) (M' := x_up M1 4 (241 * 2) (M1 0 12)) (fun k _ => by simp (disch := omega) only [x_uo, x_uj, x_us]) (fun k _ => by simp (disch := omega) only [x_uo, x_uj, x_us])
        rw [u5] at hw
        exact hw
    · have ha : a' < n := by omega
      have hso := t_so.le (w a')
      have hbb := (t_b.p (w := w) ha).2.1
      have es : t_s w n a' = t_so (w a') := by unfold t_s; rw [if_neg q]
      rw [es, if_neg (by rw [kn0_eq (by omega)]; omega), p_wrong z10, x_v_some]
      have c34 : C' 3 4 = 0 := (r5 _ _ (by omega)).symm.trans d7
      have c36 : C' 3 6 = nI 2 := (r5 _ _ (by omega)).symm.trans d3
      have X : c_B f' C' (nI i') = some (nI a', C') := c_no (w := w) h37 c36 (by omega) c34 t1 p2 hn ha tw (fun j hj => (tb j hj).1) (g2 ha) (h4.resolve_left q) (fun _ => by
        unfold fX6_takesHeading
        rw [c34, if_neg (by decide), c36, if_pos (show (2 : Int32) ≤ nI 2 by decide)])
      refine Or.inl ⟨a', C', x_up (x_up (x_up M1 4 (241 * 2) (M1 0 12)) 0 9 (x_up M1 4 (241 * 2) (M1 0 12) 0 5)) 0 10 1, by omega, X, ?_, h7, h8.tr (km1.tr (fun x y q => ?_))⟩
      · unfold p_A4
        rw [if_neg (by simp (disch := omega) only [x_uo, x_uj, x_us]; decide)]
        rw [show x_up (x_up (x_up M1 4 (241 * 2) (M1 0 12)) 0 9 (x_up M1 4 (241 * 2) (M1 0 12) 0 5)) 0 10 1 0 9 = nI a' by simp (disch := omega) only [x_uo, x_uj, x_us]; exact (r6 _ _ (by omega)).trans q5]
      · by_cases y1 : x = 0
        · subst y1; simp (disch := omega) only [x_uo, x_uj, x_us]
        · simp (disch := omega) only [x_uo, x_uj, x_us]
theorem q_stageN {n c : Nat} {w : Nat → Nat} (hc : c < 2) (stage : ∀ (e : Nat) (C M : xM) (a wm tl pr nt : Nat) (L : List Nat) (wt : Bool) (i f : Nat), z_G C M n w a (c + 1) e wm tl pr nt L wt → i ≤ a → n - a < f → z_F C M (c_B f C (nI i)) (x_v (x_v (fX11_expression_L19 kE x_FU M (bI wt) 1) (E8 (c + 1))) (p_T (c + 1)))) : ∀ (e : Nat) (C M : xM) (a wm tl pr nt : Nat) (L : List Nat) (wt : Bool) (i f : Nat), z_G C M n w a c e wm tl pr nt L wt → i ≤ a → n - a < f → z_F C M (c_B f C (nI i)) (x_v (x_v (fX11_expression_L19 kE x_FU M (bI wt) 1) (E8 c)) (p_T c)) := by
  intro e C M a wm tl pr nt L wt i f hG hi hf
  have hn := hG.1.2.1
  rcases q_sim (k := kE) (n - a) C M a wm tl pr nt L wt i f x_FU (Nat.le_refl _) hG hi hf (by rw [x_FU_eq]; omega) with ⟨q, C', M', h1, h2, h3, h4, h5, h5', h6, h7⟩ | ⟨C', M', a', wm', tl', nt', L', i', f', h1, h2, h3, h4, h5, h6, h7, h8⟩
  · rw [h3]
    exact q_fault (by omega) h1 h2 h4 h5 h5' h6 h7
  · rw [h1, h2]
    obtain ⟨C1, M1, wm1, r1, r2, r3, r4, r5, r6⟩ := q_close h3
    obtain ⟨⟨⟨t1, t2⟩, -, tb, tw⟩, ⟨⟨p2, p3⟩, ⟨q5, q6, q8⟩, han⟩, ⟨g1, g2⟩, h37, hS', hz', htl', hwt'⟩ := id h3
    obtain ⟨⟨⟨d1, d2⟩, ⟨d3, d4⟩, ⟨d5, d6⟩, ⟨d7, d8⟩, ⟨d9, d10⟩, ⟨d11, d12⟩⟩, ⟨f1, -⟩, f3, f4, f5⟩ := id r3
    have h37' : C' 3 7 = 0 := h37
    have km1 : k_M M' (x_up M1 4 (241 * c) (M1 0 12)) := fun x y q => by
      have h0 := r6 x y (by omega)
      simp (disch := omega) only [x_uo, x_uj, x_us]
      exact h0
    have Z : x_v (x_v (kE M') (E8 c)) (p_T c) = x_b (p_hw (c + 1) (x_up M1 4 (241 * c) (M1 0 12))) fun v N => x_v (fX11_reads N (nI (c + 1)) v) (p_T (c + 1)) := by
      unfold kE
      rw [if_pos g1, r2, x_v_some, x_v_some, E8_eq (by omega), x_v_some]
      rcases (show c = 0 ∨ c = 1 by omega) with rfl | rfl <;> rfl
    rw [Z]
    have z10 : x_up M1 4 (241 * c) (M1 0 12) 0 10 = 0 := by simp (disch := omega) only [x_uo, x_uj, x_us]; exact (r6 _ _ (by omega)).trans g1
    have z8 : x_up M1 4 (241 * c) (M1 0 12) 0 8 = nI (t_s w n a') := by simp (disch := omega) only [x_uo, x_uj, x_us]; exact (r6 _ _ (by omega)).trans q8
    have z5 : x_up M1 4 (241 * c) (M1 0 12) 0 5 = nI a' := by simp (disch := omega) only [x_uo, x_uj, x_us]; exact (r6 _ _ (by omega)).trans q5
    have z6 : x_up M1 4 (241 * c) (M1 0 12) 0 6 = nI (t_b w n a') := by simp (disch := omega) only [x_uo, x_uj, x_us]; exact (r6 _ _ (by omega)).trans q6
    have z7 : x_up M1 4 (241 * c) (M1 0 12) 0 7 = nI n := by simp (disch := omega) only [x_uo, x_uj, x_us]; exact (r6 _ _ (by omega)).trans t2
    have z3 : ∀ j, j < n → x_up M1 4 (241 * c) (M1 0 12) 3 j = nI (w j) := fun j hj => by simp (disch := omega) only [x_uo, x_uj, x_us]; exact (r6 _ _ (by omega)).trans (tb j hj).2
    have z13 : x_up M1 4 (241 * c) (M1 0 12) 0 13 = nI tl' := by simp (disch := omega) only [x_uo, x_uj, x_us]; exact d12
    have c34 : C' 3 4 = 0 := (r5 _ _ (by omega)).symm.trans d7
    have c36 : C' 3 6 = nI c := (r5 _ _ (by omega)).symm.trans d3
    have hbn : t_b w n a' ≤ n := by
      by_cases q : a' = n
      · unfold t_b; rw [if_pos q]; omega
      · exact (t_b.p (w := w) (by omega)).2.1
    -- no heading here
    have no : c_B f' C' (nI i') = some (nI a', C') → p_hw (c + 1) (x_up M1 4 (241 * c) (M1 0 12)) = some (0, x_up M1 4 (241 * c) (M1 0 12)) → z_F C M (c_B f' C' (nI i')) (x_b (p_hw (c + 1) (x_up M1 4 (241 * c) (M1 0 12))) fun v N => x_v (fX11_reads N (nI (c + 1)) v) (p_T (c + 1))) := fun X Y => by
      obtain ⟨M3, v1, v2, v3, v4, v5⟩ := p_reads0 (c := c + 1) (a := a') (by omega) z10 z5 ⟨_, _, z5, z6, by omega, by omega⟩
      rw [Y, x_b_some, v1, x_v_some, p_tB v2 v3 v4]
      exact Or.inl ⟨a', C', M3, by omega, X, rfl, h7, h8.tr (km1.tr v5)⟩
    by_cases q : a' = n
    · subst q
      have es : t_s w a' a' = 0 := by unfold t_s; rw [if_pos rfl]
      rw [es] at z8
      refine no ?_ (p_word0 _ ⟨_, _, z5, z6, by omega, by omega⟩ z8)
      unfold c_B
      rw [c_end t1 p2 hn (Nat.le_refl _), x_b_some, if_pos rfl, if_neg (by decide)]
      unfold K63
      rw [c36, if_neg (show ¬ nI c = (2 : Int32) by rw [kn2_eq (by omega)]; omega), t1]
    · have ha : a' < n := by omega
      have hso := t_so.le (w a')
      obtain ⟨s1, s2, s3, s4, s5⟩ := t_b.p (w := w) ha
      have es : t_s w n a' = t_so (w a') := by unfold t_s; rw [if_neg q]
      rw [es] at z8
      obtain ⟨v, v1, v2, v3⟩ := p_word (c := c + 1) (by omega) hn ha s1 s2 tw z5 z6 z8 z3
      obtain ⟨u, u1, u2, u3⟩ := c_says (C := C') (h := c + 1) (w := w) (by omega) hn s2 (by omega) p2 p3 (fun j hj => (tb j hj).1)
      have tbC : ∀ j, j < n → C' 14 j = nI (w j) := fun j hj => (tb j hj).1
      by_cases hh : t_hw w a' (t_b w n a') (c + 1)
      · -- the heading
        rw [v3.mpr hh] at v2
        rw [u3.mpr hh] at u2
        have wl : t_so (w a') ≠ 3 := by
          have hb := (xs_pos (c + 1) (by omega) 0 ((xs_ok (c + 1) (by omega)).2.2.1))
          have e0 := hh.2 0 ((xs_ok (c + 1) (by omega)).2.2.1)
          have h255 := tw a'
          have : ∀ c, c < 2 → ∀ b, b < 256 → nI b = xs_b (c + 1) 0 → t_so b ≠ 3 := by decide +kernel
          exact this c hc (w a') (by omega) e0
        rw [v2, x_b_some, c_Bt t1 p2 hn ha (g2 ha), c_takesH (w := w) h37' t1 p2 hn ha tw tbC wl, c_hd hc c34 c36, u2, x_b_some, if_neg (by decide : ¬ (1 : Int32) = 0), c36, if_neg (show ¬ nI c = (-1 : Int32) by rw [l_neg (by omega)]; exact id), c_endS (by omega) r1 d3 d1, x_v_some, x_b_some, x_zl1, x_b_some, if_neg (by decide : ¬ (1 : Int32) = 0)]
        have e36 : x_up C1 16 c (nI (e + wm1)) 3 6 + 1 = nI (c + 1) := by
          rw [show x_up C1 16 c (nI (e + wm1)) 3 6 = nI c by simp (disch := omega) only [x_uo, x_uj, x_us]; exact d3, u_a1]
        rw [e36]
        refine q_begin (a := a') (b := t_b w n a') (e := e + wm1) (tl := tl') (by omega) (stage (e + wm1)) (h7.tr (fun x y q => by
            have h0 := r5 x y (by omega)
            simp (disch := omega) only [x_uo, x_uj, x_us]
            exact h0)) (h8.tr km1) ⟨⟨by simp (disch := omega) only [x_uo, x_uj, x_us]; exact (r5 _ _ (by omega)).trans t1, z7⟩, hn, fun j hj => ⟨by simp (disch := omega) only [x_uo, x_uj, x_us]; exact (r5 _ _ (by omega)).trans (tbC j hj), z3 j hj⟩, tw⟩ z10 (by simp (disch := omega) only [x_uo, x_uj, x_us]; exact (r5 _ _ (by omega)).trans p3) z6 z8 s1 s2 (Or.inr ⟨by omega, s3.symm⟩) (by simp (disch := omega) only [x_uo, x_uj, x_us]) (by simp (disch := omega) only [x_uo, x_uj, x_us]) (by simp (disch := omega) only [x_uo, x_uj, x_us]; exact d5) (by simp (disch := omega) only [x_uo, x_uj, x_us]; exact d7) (by simp (disch := omega) only [x_uo, x_uj, x_us]; exact d9) (by simp (disch := omega) only [x_uo, x_uj, x_us]; exact d1) (by simp (disch := omega) only [x_uo, x_uj, x_us]; exact d11) z13 ?_ (by omega) (by omega) (by omega) (by omega)
        have hw := f3.keep (C' := x_up (x_up (x_up C1 16 c (nI (e + wm1))) 3 6 (nI (c + 1))) 3 7 1) (M' := x_up M1 4 (241 * c) (M1 0 12)) (fun k _ => by simp (disch := omega) only [x_uo, x_uj, x_us]) (fun k _ => by simp (disch := omega) only [x_uo, x_uj, x_us])
        refine ⟨fun z => by omega, fun _ => ?_⟩
        rcases (show c = 0 ∨ c = 1 by omega) with rfl | rfl
        · have e0 := f5.1 rfl
          subst e0
          refine ⟨wm1, by simp (disch := omega) only [x_uo, x_uj, x_us]; rw [Nat.zero_add], by simp (disch := omega) only [x_uo, x_uj, x_us]; exact d2, ?_, by omega, fun _ => by omega, fun z => by omega⟩
          exact hw
        · obtain ⟨n0, o1, o2, o3, o4, o5, -⟩ := f5.2 (by omega)
          have e0 := o5 rfl
          subst e0
          refine ⟨e, by simp (disch := omega) only [x_uo, x_uj, x_us]; exact o1, by simp (disch := omega) only [x_uo, x_uj, x_us]; exact o2, (o3.keepC (fun k hk => by simp (disch := omega) only [x_uo, x_uj, x_us])).cong (fun j hj => by simp (disch := omega) only [x_uo, x_uj, x_us]), o4, fun z => by omega, fun _ => ⟨wm1, by simp (disch := omega) only [x_uo, x_uj, x_us], by simp (disch := omega) only [x_uo, x_uj, x_us]; exact d2, ?_, by omega, rfl⟩⟩
          exact hw
      · have u0 : u = 0 := by rcases u1 with z | z; exact z; exact absurd (u3.mp z) hh
        have v0 : v = 0 := by rcases v1 with z | z; exact z; exact absurd (v3.mp z) hh
        rw [u0] at u2
        rw [v0] at v2
        exact no (c_no (w := w) h37' c36 (by omega) c34 t1 p2 hn ha tw tbC (g2 ha) (h4.resolve_left q) (fun _ => by rw [c_hd hc c34 c36, u2, x_b_some, if_pos rfl])) v2
theorem q_stage0 {n : Nat} {w : Nat → Nat} : ∀ (e : Nat) (C M : xM) (a wm tl pr nt : Nat) (L : List Nat) (wt : Bool) (i f : Nat), z_G C M n w a 0 e wm tl pr nt L wt → i ≤ a → n - a < f → z_F C M (c_B f C (nI i)) (x_v (x_v (fX11_expression_L19 kE x_FU M (bI wt) 1) (E8 0)) (p_T 0)) :=
  q_stageN (c := 0) (by omega) (q_stageN (c := 1) (by omega) (fun e => q_stage2))
