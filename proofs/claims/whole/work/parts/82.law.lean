theorem c_rel0 {C M : xM} {L : List Nat} {t : Nat} (h3 : C 3 3 = nI L.length) (hl : L.length ≤ 120) (h : z_st C M L) (ht : 1 ≤ t) (ht5 : t ≤ 5) (hh : ∀ x, L.head? = some x → z_tt x < t) : fX6_release C (nI t) = some C := by
  unfold fX6_release
  obtain ⟨f, ef⟩ : ∃ f, x_FU = f + 1 := ⟨x_FU - 1, by rw [x_FU_eq]⟩
  rw [ef, fX6_release_L2, if_neg (by decide), c_top h3 hl h, x_b_some]
  cases L with
  | nil => rw [show z_tp0 [] = 0 from rfl, c_tt0, x_b_some, if_pos (show (0 : Int32) < nI t from nI_lt (a := 0) (by omega) (by omega))]
  | cons x r => rw [show z_tp0 (x :: r) = nI (z_hc x) from rfl, c_tt h.1, x_b_some, if_pos (nI_lt (hh x rfl) (by omega))]
theorem c_takesS {C : xM} {n a c : Nat} {w : Nat → Nat} (h37 : C 3 7 = 0) (h6 : C 3 6 = nI c) (hc : c < 3) (h1 : C 11 1 = nI n) (h2 : C 11 2 = nI a) (hn : n ≤ 120) (ha : a < n) (hw : ∀ i, w i ≤ 255) (hb : ∀ i, i < n → C 14 i = nI (w i)) (hs : t_so (w a) = 3) : fX6_takes C = x_b (fX6_takesSign C (nI (w a))) fun v N => if v = 0 then (some ((0 : Int32), N)) else (some ((1 : Int32), N)) := by
  unfold fX6_takes
  rw [h37, if_pos rfl, c_isW h1 h2 hn ha hw hb, x_b_some, if_pos hs, if_pos rfl, x_lb, h6, if_neg (show ¬ nI c = (-1 : Int32) by rw [l_neg (by omega)]; exact id), c_first h1 h2 hn ha hb, x_b_some]
theorem c_takesH {C : xM} {n a : Nat} {w : Nat → Nat} (h37 : C 3 7 = 0) (h1 : C 11 1 = nI n) (h2 : C 11 2 = nI a) (hn : n ≤ 120) (ha : a < n) (hw : ∀ i, w i ≤ 255) (hb : ∀ i, i < n → C 14 i = nI (w i)) (hs : ¬ t_so (w a) = 3) : fX6_takes C = x_b (fX6_takesHeading C) fun v N => x_z v (some (v, N)) := by
  unfold fX6_takes
  rw [h37, if_pos rfl, c_isW h1 h2 hn ha hw hb, x_b_some, if_neg hs, if_neg (by decide)]
/-- the reference where a part is there -/
theorem p_L19n {M : xM} {k : xM → Option xM} {fu : Nat} (h : M 0 10 = 0) {sc : Nat} (hs : fX11_signHere M = some (nI sc, M)) (hsc : sc = 0) {v : Int32} (h41 : fX11_isSign M 41 = some (v, M)) (hv : v = 0 ∨ M 0 17 ≤ 0) : fX11_expression_L19 k (fu + 1) M 0 1 = if M 0 17 ≤ 0 then fX11_expression_L19 k fu M 0 0 else (x_v (fX11_wrong M) fun N => fX11_expression_L19 k fu N 0 0) := by
  rw [fX11_expression_L19, if_neg (by decide), if_pos h, if_pos rfl, hs, x_b_some, x_lb, hsc, if_pos (show nI 0 = (0 : Int32) from rfl), h41, x_b_some, x_lb]
  rcases hv with hv | hv
  · rw [hv, if_pos rfl]
  · rw [if_pos hv, if_pos hv, ite_self]
    exact if_pos hv
theorem p_L190 {M : xM} {k : xM → Option xM} {fu : Nat} {x : Int32} (hf : 0 < fu) : fX11_expression_L19 k fu M x 0 = k M := by
  cases fu with
  | zero => omega
  | succ fu => rw [fX11_expression_L19, if_pos rfl]
theorem p_L19c {M : xM} {k : xM → Option xM} {fu : Nat} (h : M 0 10 = 0) (hs : fX11_signHere M = some (0, M)) (h41 : fX11_isSign M 41 = some (1, M)) (h17 : ¬ M 0 17 ≤ 0) : fX11_expression_L19 k (fu + 1) M 0 1 = x_v (fX11_works M 1) fun N => x_v (fX11_next (x_up (x_up N 0 16 (N 0 16 - 1)) 0 17 (x_up N 0 16 (N 0 16 - 1) 0 17 - 1))) fun N2 => x_v (fX11_parted N2) fun N3 => fX11_expression_L19 k fu N3 0 1 := by
  rw [fX11_expression_L19, if_neg (by decide), if_pos h, if_pos rfl, hs, x_b_some, x_lb, if_pos rfl, h41, x_b_some, x_lb, if_neg (by decide : ¬ (1 : Int32) = 0), if_neg h17]
  rfl
/-- the reference at a sign: what is written, whether two tests meet, what is held -/
noncomputable def p_psh (k : xM → Option xM) (fu : Nat) (v : Int32) (N : xM) : Option xM := x_g (N 0 16) 130 (x_v (fX11_next (x_up (x_up N 5 (N 0 16).toNatClampNeg v) 0 16 (x_up N 5 (N 0 16).toNatClampNeg v 0 16 + 1))) fun N2 => fX11_expression_L19 k fu N2 1 1)
theorem p_L19s {M : xM} {k : xM → Option xM} {fu : Nat} {v : Int32} (h : M 0 10 = 0) (hs : fX11_signHere M = some (v, M)) (hv : ¬ v = 0) : fX11_expression_L19 k (fu + 1) M 0 1 = x_v (fX11_works M (if v / (10 : Int32) = 3 then 4 else v / 10)) fun N => if v / (10 : Int32) = 3 then (if N 0 16 ≤ 0 then p_psh k fu v N else x_g (N 0 16 - 1) 130 (if N 5 (N 0 16 - 1).toNatClampNeg / (10 : Int32) = 3 then (x_v (fX11_wrong N) fun N2 => fX11_expression_L19 k fu N2 0 1) else p_psh k fu v N)) else p_psh k fu v N := by
  rw [fX11_expression_L19, if_neg (by decide), if_pos h, if_pos rfl, hs, x_b_some, x_lb, if_neg hv, x_lb]
  by_cases q : v / (10 : Int32) = 3
  · rw [if_pos q, if_pos q]
    rfl
  · rw [if_neg q, if_neg q]
    rfl
/-- a part is there: a sign, a closing bracket, or the end of the row -/
theorem q_Nn {n a c e wm tl pr nt i f fu' : Nat} {w : Nat → Nat} {k : xM → Option xM} {L : List Nat} {C M : xM}
    (ih : ∀ (C M : xM) (a' wm tl pr nt : Nat) (L : List Nat) (wt : Bool) (i f fu' : Nat), a < a' → z_G C M n w a' c e wm tl pr nt L wt → i ≤ a' → n - a' < f → n - a' + 1 < fu' → z_Out C M n w c e k (c_B f C (nI i)) (fX11_expression_L19 k fu' M (bI wt) 1))
    (hG : z_G C M n w a c e wm tl pr nt L false) (ha : a < n) (hi : i ≤ a) (hf : n - a < f) (hf' : n - a < fu') : z_Out C M n w c e k (c_B f C (nI i)) (fX11_expression_L19 k (fu' + 1) M 0 1) := by
  obtain ⟨ht, ⟨⟨p2, p3⟩, ⟨q5, q6, q8⟩, -⟩, ⟨g1, g2⟩, h37, hS, hz, htl, hwt⟩ := id hG
  obtain ⟨hh3, htl0⟩ := hwt rfl
  obtain ⟨⟨t1, t2⟩, hn, tb, tw⟩ := id ht
  obtain ⟨⟨⟨a1, a2⟩, ⟨a3, a4⟩, ⟨a5, a6⟩, ⟨a7, a8⟩, ⟨a9, a10⟩, ⟨a11, a12⟩⟩, ⟨b1, b2, b6, b7⟩, b3, ⟨b41, b42, b43⟩, b5⟩ := id hS
  obtain ⟨s1, s2, s3, s4, s5⟩ := t_b.p (w := w) ha
  have es : t_s w n a = t_so (w a) := by unfold t_s; rw [if_neg (by omega)]
  have hso := t_so.le (w a)
  have h255 := tw a
  have hpt : t_pt w (t_b w n a) (t_so (w a)) := Or.inr ⟨by omega, s3.symm⟩
  have tbC : ∀ j, j < n → C 14 j = nI (w j) := fun j hj => (tb j hj).1
  have tbM : ∀ j, j < n → M 3 j = nI (w j) := fun j hj => (tb j hj).2
  have sgH := p_sign hn tw ha q5 q8 tbM
  have sg41 : fX11_isSign M 41 = _ := p_isSign (k := 41) hn tw (by decide) ha q5 q8 tbM
  have hdone : c_B f C (nI i) = c_B f C (nI i) := rfl
  rw [es] at q8
  have h37' : C 3 7 = 0 := h37
  have hGk := hG
  generalize hB : t_b w n a = b at *
  have wr : k_M M (x_up (x_up M 0 9 (M 0 5)) 0 10 1) := fun x y q => by
    by_cases y1 : x = 0
    · subst y1; simp (disch := omega) only [x_uo, x_uj, x_us]
    · simp (disch := omega) only [x_uo, x_uj, x_us]
  -- the row is at an end, or a bracket is open still
  have stop : z_sc (w a) = 0 → (t_so (w a) = 3 ∧ w a = 41 → pr = 0) → (0 < pr → fX6_takes C = some (0, C)) → (t_so (w a) ≠ 3 ∨ z_sc (w a) = 0) → z_Out C M n w c e k (c_B f C (nI i)) (fX11_expression_L19 k (fu' + 1) M 0 1) := fun z1 z2 z3 z4 => by
    rw [p_L19n g1 sgH z1 sg41 (by
      by_cases y : t_so (w a) = 3 ∧ w a = 41
      · exact Or.inr (by rw [a8, z2 y]; decide)
      · exact Or.inl (if_neg y))]
    by_cases y : pr = 0
    · rw [if_pos (by rw [a8, y]; decide), p_L190 (by omega)]
      exact Or.inr ⟨C, M, a, wm, tl, nt, L, i, f, rfl, rfl, by rw [y] at hGk; exact hGk, Or.inr z4, hi, hf, k_C.rf C, k_M.rf M⟩
    · rw [if_neg (by rw [a8, kn0_le (by omega)]; omega), p_wrong g1, x_v_some, p_L190 (by omega)]
      refine Or.inl ⟨a, C, _, by omega, ?_, rfl, by simp (disch := omega) only [x_uo, x_uj, x_us], by simp (disch := omega) only [x_uo, x_uj, x_us]; exact q5, ⟨a, b, by simp (disch := omega) only [x_uo, x_uj, x_us]; exact q5, by simp (disch := omega) only [x_uo, x_uj, x_us]; exact q6, by omega, by omega⟩, k_C.rf C, wr⟩
      rw [c_Bt t1 p2 hn ha (g2 ha), z3 (by omega), x_b_some, if_pos rfl]
      unfold K49
      rw [p2]
  by_cases w3 : t_so (w a) = 3
  · have hb := s4 w3
    have tk := c_takesS (w := w) h37' a3 b41 t1 p2 hn ha tw tbC w3
    have e41 : (nI (w a) = (41 : Int32)) = (w a = 41) := l_eqn (b := 41) (by omega) (by decide)
    by_cases c41 : w a = 41
    · have sc0 : z_sc (w a) = 0 := by rw [c41]; rfl
      by_cases c0 : pr = 0
      · exact stop sc0 (fun _ => c0) (fun z => by omega) (Or.inr sc0)
      · -- a closing bracket
        rw [sc0] at sgH
        rw [if_pos ⟨w3, c41⟩] at sg41
        obtain ⟨C1, M1, L1, wm1, r1, r2, r3, r4, r5, r6, r7, r8⟩ := q_rel (t := 1) (by omega) (by omega) L C M wm 0 x_FU x_FU hS hh3 (by omega) (by omega) (by rw [x_FU_eq]; omega) (by rw [x_FU_eq]; omega)
        obtain ⟨⟨⟨d1, d2⟩, ⟨d3, d4⟩, ⟨d5, d6⟩, ⟨d7, d8⟩, ⟨d9, d10⟩, ⟨d11, d12⟩⟩, ⟨f1, f2, f6, f7⟩, f3, f4, f5⟩ := id r3
        have hL1 : ∃ r, L1 = 1 :: r := by
          cases L1 with
          | nil => exact absurd f6 (by show ¬ 0 = pr; omega)
          | cons x r =>
            have h1 := r5 x rfl
            have h2 : x ≠ 3 := fun z => r4 (by rw [z]; rfl)
            have h4 := f1.1
            refine ⟨r, ?_⟩
            have : x = 1 := by
              rcases h4 with z | z | z | z | z | z | z | z | z | z | z
              · exact z
              · exact absurd z h2
              all_goals (subst z; exact absurd h1 (by decide))
            rw [this]
        obtain ⟨r, rfl⟩ := hL1
        have hl : (1 :: r).length = r.length + 1 := rfl
        rw [hl] at d5 d6 r6
        have hcp : z_ct 1 (1 :: r) = 1 + z_ct 1 r := rfl
        have hcn : z_ct 3 (1 :: r) = 0 + z_ct 3 r := rfl
        have hsg : z_sg (1 :: r) = z_sg r := by show (if 10 ≤ 1 then 1 else 0) + z_sg r = _; simp
        have hpm : nI pr - 1 = nI (pr - 1) := u_m1s pr (by omega)
        have hS2 := r3.pop' (C' := x_up (x_up C1 3 3 (nI r.length)) 3 4 (nI (pr - 1))) (M' := x_up (x_up M1 0 16 (nI r.length)) 0 17 (nI (pr - 1))) (pr' := pr - 1) (nt' := nt) (fun x y q => by
            by_cases y1 : x = 3
            · subst y1; simp (disch := omega) only [x_uo, x_uj, x_us]
            · simp (disch := omega) only [x_uo, x_uj, x_us]) (fun x y q => by
            by_cases y1 : x = 0
            · subst y1; simp (disch := omega) only [x_uo, x_uj, x_us]
            · simp (disch := omega) only [x_uo, x_uj, x_us]) (by simp (disch := omega) only [x_uo, x_uj, x_us]) (by simp (disch := omega) only [x_uo, x_uj, x_us]) (by simp (disch := omega) only [x_uo, x_uj, x_us]) (by simp (disch := omega) only [x_uo, x_uj, x_us]) (by simp (disch := omega) only [x_uo, x_uj, x_us]; exact d9) (by simp (disch := omega) only [x_uo, x_uj, x_us]; exact d10) (by omega) (by omega)
        rw [hsg] at hS2
        have kc1 : k_C C (x_up (x_up C1 3 3 (nI r.length)) 3 4 (nI (pr - 1))) := fun x y q => by
          rw [x_uo (by omega), x_uo (by omega)]
          exact r7 x y (by omega)
        have km1 : k_M M (x_up (x_up M1 0 16 (nI r.length)) 0 17 (nI (pr - 1))) := fun x y q => by
          have h0 := r8 x y (by omega)
          by_cases y1 : x = 0
          · subst y1; simp (disch := omega) only [x_uo, x_uj, x_us]; exact h0
          · simp (disch := omega) only [x_uo, x_uj, x_us]; exact h0
        obtain ⟨C2, M2, M3, e1, e2, e3, e4⟩ := q_partEnd (a := a) (b := b) (s0 := t_so (w a)) (C0 := C) (M0 := M) (i := i) (f := f) (fu' := fu') ih kc1 km1 ⟨⟨by simp (disch := omega) only [x_uo, x_uj, x_us]; exact (r7 _ _ (by omega)).trans t1, by simp (disch := omega) only [x_uo, x_uj, x_us]; exact (r8 _ _ (by omega)).trans t2⟩, hn, fun j hj => ⟨by simp (disch := omega) only [x_uo, x_uj, x_us]; exact (r7 _ _ (by omega)).trans (tbC j hj), by simp (disch := omega) only [x_uo, x_uj, x_us]; exact (r8 _ _ (by omega)).trans (tbM j hj)⟩, tw⟩ (by simp (disch := omega) only [x_uo, x_uj, x_us]; exact (r8 _ _ (by omega)).trans g1) (by simp (disch := omega) only [x_uo, x_uj, x_us]; exact (r7 _ _ (by omega)).trans p3) (by simp (disch := omega) only [x_uo, x_uj, x_us]; exact (r8 _ _ (by omega)).trans q6) (by simp (disch := omega) only [x_uo, x_uj, x_us]; exact (r8 _ _ (by omega)).trans q8) (by omega) s1 s2 hpt hS2 (by omega) (by omega) htl0 (by omega) (by omega) (by omega)
        have m17 : ¬ M 0 17 ≤ 0 := by rw [a8, kn0_le (by omega)]; omega
        have r2' : fX11_works M 1 = some M1 := r2
        have r1' : fX6_release C 1 = some C1 := r1
        have hM16 : M1 0 16 - 1 = nI r.length := by rw [d6]; exact u_m1 _
        have hC33 : C1 3 3 - 1 = nI r.length := by rw [d5]; exact u_m1 _
        have tp := c_top (L := 1 :: r) (by rw [hl]; exact d5) (by rw [hl]; omega) f1
        have ts : fX6_takesSign C (nI (w a)) = some (1, C2) := by
          unfold fX6_takesSign fX6_closes
          rw [if_pos (by rw [e41]; exact c41), a7, if_neg (by rw [kn0_eq (by omega)]; exact c0), r1', x_v_some, tp, x_b_some, x_lb, if_pos (show z_tp0 (1 :: r) = (40 : Int32) from rfl), x_lb]
          simp (disch := omega) only [x_lb, x_uo, x_uj, x_us, hC33, d7, hpm]
          rw [e1, x_v_some, x_b_some, x_zl1]
        rw [p_L19c g1 sgH sg41 m17, r2', x_v_some, c_Bt t1 p2 hn ha (g2 ha), tk, ts, x_b_some, if_neg (by decide : ¬ (1 : Int32) = 0), x_b_some, if_neg (by decide : ¬ (1 : Int32) = 0)]
        simp (disch := omega) only [x_uo, x_uj, x_us, hM16, d8, hpm]
        rw [e2, x_v_some, e3, x_v_some]
        exact e4
    · rcases (z_sc.ok (w a) (by omega)).1 with sc0 | ⟨sok, s10, shc, -, -⟩
      · refine stop sc0 (fun z => absurd z.2 c41) (fun z => ?_) (Or.inr sc0)
        rw [tk]
        unfold fX6_takesSign
        rw [if_neg (by rw [e41]; exact c41), c_ttb C (by omega), x_b_some, sc0, if_pos (show nI (0 / 10) = (0 : Int32) from rfl), x_b_some, if_pos rfl]
      · -- a sign
        generalize hx : z_sc (w a) = x at *
        obtain ⟨-, -, -, x51⟩ := sok.hc
        have e10 : nI x / (10 : Int32) = nI (x / 10) := pk_div (d := 10) (by omega) (by decide) (by decide)
        have x3 : (nI (x / 10) = (3 : Int32)) = (x / 10 = 3) := kn3_eq (by omega)
        have p19 := p_L19s (k := k) (fu := fu') g1 sgH (by rw [kn0_eq (by omega)]; omega)
        rw [e10] at p19
        have ttx : z_tt x = x / 10 := by unfold z_tt; rw [if_pos s10]
        -- held on both sides, and on
        have psh : ∀ (C1 M1 : xM) (L1 : List Nat) (wm1 : Nat), z_S C1 M1 c e wm1 (z_sg L1 + 1) tl pr nt L1 → L1.head? ≠ some 3 → wm1 + L1.length = wm + L.length → (∀ x y, ¬ (x = 15 ∨ (x = 12 ∧ y = 2) ∨ (x = 3 ∧ y = 3)) → C1 x y = C x y) → (∀ x y, ¬ (x = 4 ∨ (x = 0 ∧ (y = 12 ∨ y = 16))) → M1 x y = M x y) → z_Out C M n w c e k (fX6_findFault_L6 K63 K63 K49 f (x_up (x_up (x_up C1 13 L1.length (nI (w a))) 3 3 (nI (L1.length + 1))) 3 7 1) (nI i + 1)) (p_psh k fu' (nI x) M1) ∧ fX6_hold C1 (nI (w a)) = some (x_up (x_up C1 13 L1.length (nI (w a))) 3 3 (nI (L1.length + 1))) := fun C1 M1 L1 wm1 r3 r4 r6 r7 r8 => by
          obtain ⟨⟨⟨d1, d2⟩, ⟨d3, d4⟩, ⟨d5, d6⟩, ⟨d7, d8⟩, ⟨d9, d10⟩, ⟨d11, d12⟩⟩, ⟨f1, f2, f6, f7⟩, f3, f4, f5⟩ := id r3
          refine ⟨?_, c_hold' _ d5 (by omega)⟩
          have hS1 := r3.push' (x := x) (C' := x_up (x_up (x_up C1 13 L1.length (nI (w a))) 3 3 (nI (L1.length + 1))) 3 7 1) (M' := x_up (x_up M1 5 L1.length (nI x)) 0 16 (nI (L1.length + 1))) (pr' := pr) (nt' := nt) sok (fun y z1 z2 => absurd (by rw [← z2]; exact z1) r4) (fun x y q => by
              by_cases y1 : x = 3
              · subst y1; simp (disch := omega) only [x_uo, x_uj, x_us]
              · by_cases y2 : x = 13
                · subst y2; simp (disch := omega) only [x_uo, x_uj, x_us]
                · simp (disch := omega) only [x_uo, x_uj, x_us]) (fun x y q => by
              by_cases y1 : x = 0
              · subst y1; simp (disch := omega) only [x_uo, x_uj, x_us]
              · by_cases y2 : x = 5
                · subst y2; simp (disch := omega) only [x_uo, x_uj, x_us]
                · simp (disch := omega) only [x_uo, x_uj, x_us]) (by simp (disch := omega) only [x_uo, x_uj, x_us]; rw [shc]) (by simp (disch := omega) only [x_uo, x_uj, x_us]) (by simp (disch := omega) only [x_uo, x_uj, x_us]) (by simp (disch := omega) only [x_uo, x_uj, x_us]) (by simp (disch := omega) only [x_uo, x_uj, x_us]; exact d7) (by simp (disch := omega) only [x_uo, x_uj, x_us]; exact d8) (by simp (disch := omega) only [x_uo, x_uj, x_us]; exact d9) (by simp (disch := omega) only [x_uo, x_uj, x_us]; exact d10) (by show (if x = 1 then 1 else 0) + z_ct 1 L1 = _; rw [if_neg (by omega)]; omega) (by show (if x = 3 then 1 else 0) + z_ct 3 L1 = _; rw [if_neg (by omega)]; omega) b42 b43
          obtain ⟨M2, m1, m2, m3, m4, m5, m6⟩ := p_next (M := x_up (x_up M1 5 L1.length (nI x)) 0 16 (nI (L1.length + 1))) (s0 := t_so (w a)) hn tw s2 (by simp (disch := omega) only [x_uo, x_uj, x_us]; exact (r8 _ _ (by omega)).trans g1) (by simp (disch := omega) only [x_uo, x_uj, x_us]; exact (r8 _ _ (by omega)).trans q6) (by simp (disch := omega) only [x_uo, x_uj, x_us]; exact (r8 _ _ (by omega)).trans t2) (by simp (disch := omega) only [x_uo, x_uj, x_us]; exact (r8 _ _ (by omega)).trans q8) (by omega) (fun j hj => by simp (disch := omega) only [x_uo, x_uj, x_us]; exact (r8 _ _ (by omega)).trans (tbM j hj))
          unfold p_psh
          rw [d6, u_g (by omega) (by omega), u_c (by omega), show x_up M1 5 L1.length (nI x) 0 16 = nI L1.length by simp (disch := omega) only [x_uo, x_uj, x_us]; exact d6, u_a1 L1.length, m1, x_v_some]
          refine q_after (a := a) (b := b) (s0 := t_so (w a)) (wm := wm1) (tl := tl) (pr := pr) (nt := nt) (L := x :: L1) (wt := true) ih (fun x y q => by simp (disch := omega) only [x_uo, x_uj, x_us]; exact r7 x y (by omega)) (fun x y q => ?_) ⟨⟨by simp (disch := omega) only [x_uo, x_uj, x_us]; exact (r7 _ _ (by omega)).trans t1, by rw [m2 _ _ (by omega)]; simp (disch := omega) only [x_uo, x_uj, x_us]; exact (r8 _ _ (by omega)).trans t2⟩, hn, fun j hj => ⟨by simp (disch := omega) only [x_uo, x_uj, x_us]; exact (r7 _ _ (by omega)).trans (tbC j hj), by rw [m2 _ _ (by omega)]; simp (disch := omega) only [x_uo, x_uj, x_us]; exact (r8 _ _ (by omega)).trans (tbM j hj)⟩, tw⟩ ⟨⟨m3, m4, m5⟩, m6⟩ (by simp (disch := omega) only [x_uo, x_uj, x_us]; exact (r7 _ _ (by omega)).trans p3) s1 s2 hpt (by simp (disch := omega) only [x_uo, x_uj, x_us]; rfl) ?_ (by show e + wm1 + (L1.length + 1) ≤ b; omega) (by omega) (fun z => by cases z) (by omega) (by omega) (by omega)
          · rw [m2 _ _ (by omega)]
            have h0 := r8 x y (by omega)
            by_cases y1 : x = 0
            · subst y1; simp (disch := omega) only [x_uo, x_uj, x_us]; exact h0
            · simp (disch := omega) only [x_uo, x_uj, x_us]; exact h0
          · have := hS1.keep (C' := x_up (x_up (x_up C1 13 L1.length (nI (w a))) 3 3 (nI (L1.length + 1))) 3 7 1) (M' := M2) (fun _ _ _ => rfl) (fun x y q => m2 x y (by omega))
            have z0 : z_sg (x :: L1) = z_sg L1 + 1 := by show (if 10 ≤ x then 1 else 0) + z_sg L1 = _; rw [if_pos s10]; omega
            rw [z0]
            exact this
        have tt0 : ¬ nI (x / 10) = (0 : Int32) := by rw [kn0_eq (by omega)]; omega
        rw [c_Bt t1 p2 hn ha (g2 ha), tk, p19]
        unfold fX6_takesSign
        rw [if_neg (by rw [e41]; exact c41), c_ttb C (by omega), x_b_some, hx, if_neg tt0, x_lb]
        by_cases c3 : x / 10 = 3
        · obtain ⟨C1, M1, L1, wm1, r1, r2, r3, r4, r5, r6, r7, r8⟩ := q_rel (t := 4) (by omega) (by omega) L C M wm 0 x_FU x_FU hS hh3 (by omega) (by omega) (by rw [x_FU_eq]; omega) (by rw [x_FU_eq]; omega)
          obtain ⟨⟨⟨d1, d2⟩, ⟨d3, d4⟩, ⟨d5, d6⟩, ⟨d7, d8⟩, ⟨d9, d10⟩, ⟨d11, d12⟩⟩, ⟨f1, f2, f6, f7⟩, f3, f4, f5⟩ := id r3
          have r2' : fX11_works M 4 = some M1 := r2
          have r1' : fX6_release C 4 = some C1 := r1
          have hx3 : nI (x / 10) = (3 : Int32) := by rw [c3]; rfl
          have tp := c_top d5 (by omega) f1
          rw [if_pos hx3, if_pos hx3, r1', x_v_some, r2', x_v_some, if_pos hx3, tp, x_b_some]
          have good : (∀ y, L1.head? = some y → z_tt y < 3) → z_Out C M n w c e k (x_b (x_b (x_v (fX6_release C1 (nI (x / 10))) fun M_8 => x_v (fX6_hold M_8 (nI (w a))) fun M_10 => x_l (x_up M_10 3 7 (1 : Int32)) fun M_12 => some ((1 : Int32), M_12)) fun v N => if v = 0 then (some ((0 : Int32), N)) else (some ((1 : Int32), N))) fun v N => if v = 0 then (K49 N) else (fX6_findFault_L6 K63 K63 K49 f N (nI i + 1))) (p_psh k fu' (nI x) M1) := fun hh => by
            obtain ⟨u1, u2⟩ := psh C1 M1 L1 wm1 r3 r4 r6 r7 r8
            rw [c3, c_rel0 (M := M1) d5 (by omega) f1 (by omega) (by omega) hh, x_v_some, u2, x_v_some, x_lb, x_b_some, if_neg (by decide : ¬ (1 : Int32) = 0), x_b_some, if_neg (by decide : ¬ (1 : Int32) = 0)]
            exact u1
          cases L1 with
          | nil =>
            rw [show z_tp0 [] = 0 from rfl, c_tt0, x_b_some, if_neg (by decide : ¬ (0 : Int32) = 3), if_pos (by rw [d6]; decide)]
            exact good (fun y z => by cases z)
          | cons y r =>
            have hl : (y :: r).length = r.length + 1 := rfl
            obtain ⟨⟨v1, v2⟩, v3, v4, v5⟩ := r3.pop
            obtain ⟨-, -, -, y51⟩ := v3.hc
            have ey10 : nI y / (10 : Int32) = nI (y / 10) := pk_div (d := 10) (by omega) (by decide) (by decide)
            have hy4 := r5 y rfl
            have hyt : z_tt y ≤ 5 := by unfold z_tt; split <;> omega
            have hy3 : (z_tt y = 3) ↔ (y / 10 = 3) := by
              unfold z_tt
              by_cases z : 10 ≤ y
              · rw [if_pos z]
              · rw [if_neg z]; omega
            rw [show z_tp0 (y :: r) = nI (z_hc y) from rfl, c_tt v3, x_b_some, if_neg (show ¬ M1 0 16 ≤ 0 by rw [d6, hl, kn0_le (by omega)]; omega), v2, u_g (by omega) (by omega), u_c (by omega), v5, ey10]
            by_cases z : z_tt y = 3
            · rw [if_pos (show nI (z_tt y) = (3 : Int32) by rw [z]; rfl), if_pos (show nI (y / 10) = (3 : Int32) by rw [hy3.mp z]; rfl), p_wrong ((r8 _ _ (by omega)).trans g1), x_v_some, p_L19bad (by simp (disch := omega) only [x_uo, x_uj, x_us]) (by omega), x_b_some, if_pos rfl, x_b_some, if_pos rfl]
              refine Or.inl ⟨a, C1, _, by omega, ?_, rfl, by simp (disch := omega) only [x_uo, x_uj, x_us], by simp (disch := omega) only [x_uo, x_uj, x_us]; exact (r8 _ _ (by omega)).trans q5, ⟨a, b, by simp (disch := omega) only [x_uo, x_uj, x_us]; exact (r8 _ _ (by omega)).trans q5, by simp (disch := omega) only [x_uo, x_uj, x_us]; exact (r8 _ _ (by omega)).trans q6, by omega, by omega⟩, fun x y q => r7 x y (by omega), fun x y q => ?_⟩
              · unfold K49
                rw [r7 _ _ (by omega), p2]
              · have h0 := r8 x y (by omega)
                by_cases y1 : x = 0
                · subst y1; simp (disch := omega) only [x_uo, x_uj, x_us]; exact h0
                · simp (disch := omega) only [x_uo, x_uj, x_us]; exact h0
            · rw [if_neg (show ¬ nI (z_tt y) = (3 : Int32) by rw [kn3_eq (by omega)]; exact z), if_neg (show ¬ nI (y / 10) = (3 : Int32) by rw [kn3_eq (by omega)]; exact fun q => z (hy3.mpr q))]
              exact good (fun y' q => by cases q; omega)
        · obtain ⟨C1, M1, L1, wm1, r1, r2, r3, r4, r5, r6, r7, r8⟩ := q_rel (t := x / 10) (by omega) (by omega) L C M wm 0 x_FU x_FU hS hh3 (by omega) (by omega) (by rw [x_FU_eq]; omega) (by rw [x_FU_eq]; omega)
          have hx3 : ¬ nI (x / 10) = (3 : Int32) := by rw [x3]; exact c3
          have r2' : fX11_works M (nI (x / 10)) = some M1 := r2
          have r1' : fX6_release C (nI (x / 10)) = some C1 := r1
          obtain ⟨u1, u2⟩ := psh C1 M1 L1 wm1 r3 r4 r6 r7 r8
          rw [if_neg hx3, if_neg hx3]
          show z_Out C M n w c e k (x_b (x_b (x_v (fX6_release C (nI (x / 10))) _) _) _) _
          rw [r1', x_v_some, u2, x_v_some, x_lb, r2', x_v_some, if_neg hx3, x_b_some, if_neg (by decide : ¬ (1 : Int32) = 0), x_b_some, if_neg (by decide : ¬ (1 : Int32) = 0)]
          exact u1
  · -- a word
    have sc0 : z_sc (w a) = 0 := by
      rcases (z_sc.ok (w a) (by omega)).2 with z | z
      · exact z
      · exact absurd z w3
    refine stop sc0 (fun z => absurd z.1 w3) (fun z => ?_) (Or.inl w3)
    rw [c_takesH (w := w) h37' t1 p2 hn ha tw tbC w3]
    unfold fX6_takesHeading
    rw [a7, if_pos (show (0 : Int32) < nI pr from nI_lt (a := 0) z (by omega)), x_b_some, x_zl0]
