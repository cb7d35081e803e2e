/-- a part is wanted -/
theorem q_W {n a c e wm tl pr nt i f fu' : Nat} {w : Nat → Nat} {k : xM → Option xM} {L : List Nat} {C M : xM}
    (ih : ∀ (C M : xM) (a' wm tl pr nt : Nat) (L : List Nat) (wt : Bool) (i f fu' : Nat), a < a' → z_G C M n w a' c e wm tl pr nt L wt → i ≤ a' → n - a' < f → n - a' + 1 < fu' → z_Out C M n w c e k (c_B f C (nI i)) (fX11_expression_L19 k fu' M (bI wt) 1))
    (hG : z_G C M n w a c e wm tl pr nt L true) (ha : a < n) (hi : i ≤ a) (hf : n - a < f) (hf' : n - a < fu') : z_Out C M n w c e k (c_B f C (nI i)) (fX11_expression_L19 k (fu' + 1) M 1 1) := by
  obtain ⟨ht, ⟨⟨p2, p3⟩, ⟨q5, q6, q8⟩, -⟩, ⟨g1, g2⟩, h37, hS, hz, htl, -⟩ := id hG
  obtain ⟨⟨t1, t2⟩, hn, tb, tw⟩ := id ht
  obtain ⟨⟨⟨a1, a2⟩, ⟨a3, a4⟩, ⟨a5, a6⟩, ⟨a7, a8⟩, ⟨a9, a10⟩, ⟨a11, a12⟩⟩, ⟨b1, b2, b6, b7⟩, b3, ⟨b41, b42, b43⟩, b5⟩ := id hS
  obtain ⟨s1, s2, s3, s4, s5⟩ := t_b.p (w := w) ha
  have es : t_s w n a = t_so (w a) := by unfold t_s; rw [if_neg (by omega)]
  have hso := t_so.le (w a)
  have h255 := tw a
  have hpt : t_pt w (t_b w n a) (t_so (w a)) := Or.inr ⟨by omega, s3.symm⟩
  have tbC : ∀ j, j < n → C 14 j = nI (w j) := fun j hj => (tb j hj).1
  have tbM : ∀ j, j < n → M 3 j = nI (w j) := fun j hj => (tb j hj).2
  rw [es] at q8
  generalize hB : t_b w n a = b at *
  rw [c_Bt t1 p2 hn ha (g2 ha), c_takesW (w := w) h37 t1 p2 hn ha tbC, p_L19 g1]
  have sg : ∀ k, k ≤ 255 → fX11_isSign M (nI k) = some ((if t_so (w a) = 3 ∧ w a = k then 1 else 0), M) := fun k hk => p_isSign hn tw hk ha q5 (by rw [es]; exact q8) tbM
  have sg33 : fX11_isSign M 33 = _ := sg 33 (by decide)
  have sg40 : fX11_isSign M 40 = _ := sg 40 (by decide)
  -- the fault
  have bad : fX6_takesPart C (nI (w a)) = some (0, C) → fX11_begins M = (x_v (fX11_wrong M) fun N => some ((0 : Int32), N)) → z_Out C M n w c e k (x_b (x_b (fX6_takesPart C (nI (w a))) fun v N => x_z v (some (v, N))) fun v N => if v = 0 then (K49 N) else (fX6_findFault_L6 K63 K63 K49 f N (nI i + 1))) (x_b (fX11_begins M) fun v N => fX11_expression_L19 k fu' N v 1) := fun z1 z2 => by
    rw [z1, z2, p_wrong g1, x_v_some, x_b_some, x_b_some, x_zl0, x_b_some, if_pos rfl]
    refine Or.inl ⟨a, C, _, by omega, ?_, p_L19bad (by simp (disch := omega) only [x_uo, x_uj, x_us]) (by omega), by simp (disch := omega) only [x_uo, x_uj, x_us], by simp (disch := omega) only [x_uo, x_uj, x_us]; exact q5, ⟨a, b, by simp (disch := omega) only [x_uo, x_uj, x_us]; exact q5, by simp (disch := omega) only [x_uo, x_uj, x_us]; exact q6, by omega, by omega⟩, k_C.rf C, fun x y q => ?_⟩
    · unfold K49
      rw [p2]
    · by_cases y1 : x = 0
      · subst y1; simp (disch := omega) only [x_uo, x_uj, x_us]
      · simp (disch := omega) only [x_uo, x_uj, x_us]
  have eL : ∀ z : Int32, ∀ j, j ≤ 255 → z = nI j → (nI (w a) = z) = (w a = j) := fun z j hj hz => by rw [hz]; exact l_eqn (by omega) (by omega)
  have e40 : (nI (w a) = (40 : Int32)) = (w a = 40) := eL 40 40 (by decide) rfl
  have e33 : (nI (w a) = (33 : Int32)) = (w a = 33) := eL 33 33 (by decide) rfl
  by_cases c1 : w a = 40
  · -- an opening bracket
    have so3 : t_so (w a) = 3 := by rw [c1]; rfl
    have hb := s4 so3
    have k1 : fX11_isSign M 33 = some (0, M) := by rw [sg33, if_neg (by omega)]
    have k2 : fX11_isSign M 40 = some (1, M) := by rw [sg40, if_pos ⟨so3, c1⟩]
    have pb := p_begP k1 k2 a6 (by omega) a10 a8 b42
    by_cases c8 : pr = 8
    · rw [if_pos c8] at pb
      refine bad ?_ pb
      unfold fX6_takesPart
      rw [if_pos (by rw [e40]; exact c1), a7, if_neg (by rw [c8]; decide)]
    · rw [if_neg c8] at pb
      have tp : fX6_takesPart C (nI (w a)) = some (1, x_up (x_up (x_up C 3 4 (nI (pr + 1))) 13 L.length (nI (w a))) 3 3 (nI (L.length + 1))) := by
        unfold fX6_takesPart
        rw [if_pos (by rw [e40]; exact c1), a7, if_pos (by rw [kn8_lt (by omega)]; omega), x_lb, u_a1, c_hold' (h := L.length) _ (by simp (disch := omega) only [x_uo, x_uj, x_us]; exact a5) (by omega), x_v_some]
      have hS1 := hS.push' (x := 1) (C' := x_up (x_up (x_up C 3 4 (nI (pr + 1))) 13 L.length (nI (w a))) 3 3 (nI (L.length + 1))) (M' := x_up (x_up (x_up (x_up M 5 L.length 1) 0 16 (nI (L.length + 1))) 0 18 (nI nt)) 0 17 (nI (pr + 1))) (pr' := pr + 1) (nt' := nt) (Or.inl rfl) (fun y _ _ => Or.inl rfl) (fun x y q => by
          by_cases y1 : x = 3
          · subst y1; simp (disch := omega) only [x_uo, x_uj, x_us]
          · by_cases y2 : x = 13
            · subst y2; simp (disch := omega) only [x_uo, x_uj, x_us]
            · simp (disch := omega) only [x_uo, x_uj, x_us]) (fun x y q => by
          by_cases y1 : x = 0
          · subst y1; simp (disch := omega) only [x_uo, x_uj, x_us]
          · by_cases y2 : x = 5
            · subst y2; simp (disch := omega) only [x_uo, x_uj, x_us]
            · simp (disch := omega) only [x_uo, x_uj, x_us]) (by simp (disch := omega) only [x_uo, x_uj, x_us]; rw [c1]; rfl) (by simp (disch := omega) only [x_uo, x_uj, x_us]; rfl) (by simp (disch := omega) only [x_uo, x_uj, x_us]) (by simp (disch := omega) only [x_uo, x_uj, x_us]) (by simp (disch := omega) only [x_uo, x_uj, x_us]) (by simp (disch := omega) only [x_uo, x_uj, x_us]) (by simp (disch := omega) only [x_uo, x_uj, x_us]; exact a9) (by simp (disch := omega) only [x_uo, x_uj, x_us]) (by show 1 + z_ct 1 L = _; omega) (by show 0 + z_ct 3 L = _; omega) (by omega) (by omega)
      obtain ⟨M2, m1, m2, m3, m4, m5, m6⟩ := p_next (M := x_up (x_up (x_up (x_up M 5 L.length 1) 0 16 (nI (L.length + 1))) 0 18 (nI nt)) 0 17 (nI (pr + 1))) (s0 := t_so (w a)) hn tw s2 (by simp (disch := omega) only [x_uo, x_uj, x_us]; exact g1) (by simp (disch := omega) only [x_uo, x_uj, x_us]; exact q6) (by simp (disch := omega) only [x_uo, x_uj, x_us]; exact t2) (by simp (disch := omega) only [x_uo, x_uj, x_us]; exact q8) (by omega) (fun j hj => by simp (disch := omega) only [x_uo, x_uj, x_us]; exact tbM j hj)
      rw [tp, pb, m1, x_v_some, x_b_some, x_b_some, x_zl1, x_b_some, if_neg (by decide : ¬ (1 : Int32) = 0)]
      refine q_after (a := a) (b := b) (s0 := t_so (w a)) (wm := wm) (tl := tl) (pr := pr + 1) (nt := nt) (L := 1 :: L) (wt := true) ih (fun x y q => by simp (disch := omega) only [x_uo, x_uj, x_us]) (fun x y q => ?_) ⟨⟨by simp (disch := omega) only [x_uo, x_uj, x_us]; exact t1, by rw [m2 _ _ (by omega)]; simp (disch := omega) only [x_uo, x_uj, x_us]; exact t2⟩, hn, fun j hj => ⟨by simp (disch := omega) only [x_uo, x_uj, x_us]; exact tbC j hj, by rw [m2 _ _ (by omega)]; simp (disch := omega) only [x_uo, x_uj, x_us]; exact tbM j hj⟩, tw⟩ ⟨⟨m3, m4, m5⟩, m6⟩ (by simp (disch := omega) only [x_uo, x_uj, x_us]; exact p3) s1 s2 hpt (by simp (disch := omega) only [x_uo, x_uj, x_us]; exact h37) ?_ (by show e + wm + (L.length + 1) ≤ b; omega) (by omega) (fun z => by cases z) (by omega) (by omega) (by omega)
      · rw [m2 _ _ (by omega)]
        by_cases y1 : x = 0
        · subst y1; simp (disch := omega) only [x_uo, x_uj, x_us]
        · simp (disch := omega) only [x_uo, x_uj, x_us]
      · have := hS1.keep (C' := x_up (x_up (x_up C 3 4 (nI (pr + 1))) 13 L.length (nI (w a))) 3 3 (nI (L.length + 1))) (M' := M2) (fun _ _ _ => rfl) (fun x y q => m2 x y (by omega))
        have z0 : z_sg (1 :: L) = z_sg L := by show (if 10 ≤ 1 then 1 else 0) + z_sg L = _; simp
        rw [z0]
        exact this
  by_cases c2 : w a = 33
  · -- a not
    have so3 : t_so (w a) = 3 := by rw [c2]; rfl
    have hb := s4 so3
    have k1 : fX11_isSign M 33 = some (1, M) := by rw [sg33, if_pos ⟨so3, c2⟩]
    have pb := p_begX k1 a6 (by omega) a10 a8 b43
    by_cases c8 : nt = 8
    · rw [if_pos c8] at pb
      refine bad ?_ pb
      unfold fX6_takesPart
      rw [if_neg (by rw [e40]; exact c1), if_pos (by rw [e33]; exact c2), a9, if_neg (by rw [c8]; decide)]
    · rw [if_neg c8] at pb
      have tp : fX6_takesPart C (nI (w a)) = some (1, x_up (x_up (x_up C 3 5 (nI (nt + 1))) 13 L.length (nI (w a))) 3 3 (nI (L.length + 1))) := by
        unfold fX6_takesPart
        rw [if_neg (by rw [e40]; exact c1), if_pos (by rw [e33]; exact c2), a9, if_pos (by rw [kn8_lt (by omega)]; omega), x_lb, u_a1, c_hold' (h := L.length) _ (by simp (disch := omega) only [x_uo, x_uj, x_us]; exact a5) (by omega), x_v_some]
      have hS1 := hS.push' (x := 3) (C' := x_up (x_up (x_up C 3 5 (nI (nt + 1))) 13 L.length (nI (w a))) 3 3 (nI (L.length + 1))) (M' := x_up (x_up (x_up (x_up M 5 L.length 3) 0 16 (nI (L.length + 1))) 0 18 (nI (nt + 1))) 0 17 (nI pr)) (pr' := pr) (nt' := nt + 1) (Or.inr (Or.inl rfl)) (fun y _ _ => Or.inr rfl) (fun x y q => by
          by_cases y1 : x = 3
          · subst y1; simp (disch := omega) only [x_uo, x_uj, x_us]
          · by_cases y2 : x = 13
            · subst y2; simp (disch := omega) only [x_uo, x_uj, x_us]
            · simp (disch := omega) only [x_uo, x_uj, x_us]) (fun x y q => by
          by_cases y1 : x = 0
          · subst y1; simp (disch := omega) only [x_uo, x_uj, x_us]
          · by_cases y2 : x = 5
            · subst y2; simp (disch := omega) only [x_uo, x_uj, x_us]
            · simp (disch := omega) only [x_uo, x_uj, x_us]) (by simp (disch := omega) only [x_uo, x_uj, x_us]; rw [c2]; rfl) (by simp (disch := omega) only [x_uo, x_uj, x_us]; rfl) (by simp (disch := omega) only [x_uo, x_uj, x_us]) (by simp (disch := omega) only [x_uo, x_uj, x_us]) (by simp (disch := omega) only [x_uo, x_uj, x_us]; exact a7) (by simp (disch := omega) only [x_uo, x_uj, x_us]) (by simp (disch := omega) only [x_uo, x_uj, x_us]) (by simp (disch := omega) only [x_uo, x_uj, x_us]) (by show 0 + z_ct 1 L = _; omega) (by show 1 + z_ct 3 L = _; omega) (by omega) (by omega)
      obtain ⟨M2, m1, m2, m3, m4, m5, m6⟩ := p_next (M := x_up (x_up (x_up (x_up M 5 L.length 3) 0 16 (nI (L.length + 1))) 0 18 (nI (nt + 1))) 0 17 (nI pr)) (s0 := t_so (w a)) hn tw s2 (by simp (disch := omega) only [x_uo, x_uj, x_us]; exact g1) (by simp (disch := omega) only [x_uo, x_uj, x_us]; exact q6) (by simp (disch := omega) only [x_uo, x_uj, x_us]; exact t2) (by simp (disch := omega) only [x_uo, x_uj, x_us]; exact q8) (by omega) (fun j hj => by simp (disch := omega) only [x_uo, x_uj, x_us]; exact tbM j hj)
      rw [tp, pb, m1, x_v_some, x_b_some, x_b_some, x_zl1, x_b_some, if_neg (by decide : ¬ (1 : Int32) = 0)]
      refine q_after (a := a) (b := b) (s0 := t_so (w a)) (wm := wm) (tl := tl) (pr := pr) (nt := nt + 1) (L := 3 :: L) (wt := true) ih (fun x y q => by simp (disch := omega) only [x_uo, x_uj, x_us]) (fun x y q => ?_) ⟨⟨by simp (disch := omega) only [x_uo, x_uj, x_us]; exact t1, by rw [m2 _ _ (by omega)]; simp (disch := omega) only [x_uo, x_uj, x_us]; exact t2⟩, hn, fun j hj => ⟨by simp (disch := omega) only [x_uo, x_uj, x_us]; exact tbC j hj, by rw [m2 _ _ (by omega)]; simp (disch := omega) only [x_uo, x_uj, x_us]; exact tbM j hj⟩, tw⟩ ⟨⟨m3, m4, m5⟩, m6⟩ (by simp (disch := omega) only [x_uo, x_uj, x_us]; exact p3) s1 s2 hpt (by simp (disch := omega) only [x_uo, x_uj, x_us]; exact h37) ?_ (by show e + wm + (L.length + 1) ≤ b; omega) (by omega) (fun z => by cases z) (by omega) (by omega) (by omega)
      · rw [m2 _ _ (by omega)]
        by_cases y1 : x = 0
        · subst y1; simp (disch := omega) only [x_uo, x_uj, x_us]
        · simp (disch := omega) only [x_uo, x_uj, x_us]
      · have := hS1.keep (C' := x_up (x_up (x_up C 3 5 (nI (nt + 1))) 13 L.length (nI (w a))) 3 3 (nI (L.length + 1))) (M' := M2) (fun _ _ _ => rfl) (fun x y q => m2 x y (by omega))
        have z0 : z_sg (3 :: L) = z_sg L := by show (if 10 ≤ 3 then 1 else 0) + z_sg L = _; simp
        rw [z0]
        exact this
  -- a number or a name
  have k1 : fX11_isSign M 33 = some (0, M) := by rw [sg33, if_neg (fun z => c2 z.2)]
  have k2 : fX11_isSign M 40 = some (0, M) := by rw [sg40, if_neg (fun z => c1 z.2)]
  have hdg : t_so (w a) = 2 → ∀ j, a ≤ j → j < b → 48 ≤ w j ∧ w j ≤ 57 := fun z j h1 h2 => (t_dig _).mp ((s5 j h1 h2).trans z)
  have non := c_numOrName (C := C) (b := b) hn tw b41 ha s1 s2 p2 p3 a3 tbC hdg
  have tp0 : fX6_takesPart C (nI (w a)) = x_b (fX6_takesNumberOrName C (nI (w a))) fun v N => x_z v (some (v, N)) := by
    unfold fX6_takesPart
    rw [if_neg (by rw [e40]; exact c1), if_neg (by rw [e33]; exact c2)]
  -- a word W, V is written, and the part is at an end
  have part : ∀ (W V : Int32), r_wd (z_L c) W V → (W = 1 ∨ W = 2) → fX6_takesNumberOrName C (nI (w a)) = (x_v (fX3_write C (r_it W V)) fun N => x_v (fX6_endPart (x_up N 12 3 (N 12 3 + 1))) fun N2 => some ((1 : Int32), N2)) → fX11_begins M = (x_v (fX11_emit M W V) fun N => x_v (fX11_next (x_up N 0 13 (N 0 13 + 1))) fun N2 => x_v (fX11_parted N2) fun N3 => some ((0 : Int32), N3)) → z_Out C M n w c e k (x_b (x_b (fX6_takesPart C (nI (w a))) fun v N => x_z v (some (v, N))) fun v N => if v = 0 then (K49 N) else (fX6_findFault_L6 K63 K63 K49 f N (nI i + 1))) (x_b (fX11_begins M) fun v N => fX11_expression_L19 k fu' N v 1) := fun W V hWV hW z1 z2 => by
    have hS1 := (hS.wordE (W := W) (V := V) (d' := z_sg L + 1) hWV (by rw [if_pos hW]; rfl)).tally
    obtain ⟨C2, M2, M3, e1, e2, e3, e4⟩ := q_partEnd (a := a) (b := b) (s0 := t_so (w a)) (C0 := C) (M0 := M) (i := i) (f := f) (fu' := fu') ih (fun x y q => by simp (disch := omega) only [x_uo, x_uj, x_us]) (fun x y q => by
        by_cases y1 : x = 0
        · subst y1; simp (disch := omega) only [x_uo, x_uj, x_us]
        · simp (disch := omega) only [x_uo, x_uj, x_us]) ⟨⟨by simp (disch := omega) only [x_uo, x_uj, x_us]; exact t1, by simp (disch := omega) only [x_uo, x_uj, x_us]; exact t2⟩, hn, fun j hj => ⟨by simp (disch := omega) only [x_uo, x_uj, x_us]; exact tbC j hj, by simp (disch := omega) only [x_uo, x_uj, x_us]; exact tbM j hj⟩, tw⟩ (by simp (disch := omega) only [x_uo, x_uj, x_us]; exact g1) (by simp (disch := omega) only [x_uo, x_uj, x_us]; exact p3) (by simp (disch := omega) only [x_uo, x_uj, x_us]; exact q6) (by simp (disch := omega) only [x_uo, x_uj, x_us]; exact q8) (by omega) s1 s2 hpt hS1 (by omega) (by omega) (by omega) (by omega) (by omega) (by omega)
    rw [tp0, z1, z2, c_write _ a1 (by omega), p_emit _ _ a4 b41 a2 (by omega), x_v_some, x_v_some]
    simp (disch := omega) only [x_uo, x_uj, x_us, a11, a12, u_a1]
    rw [e1, e2, x_v_some, x_v_some, e3, x_v_some, x_b_some, x_b_some, x_zl1, x_b_some, x_zl1, x_b_some, if_neg (by decide : ¬ (1 : Int32) = 0)]
    rw [u_a1] at e4
    exact e4
  by_cases c3 : t_so (w a) = 2 ∧ b - a ≤ 5
  · have hlt := t_nm.le (w := w) (a := a) (b - a) (fun j h1 h2 => hdg c3.1 j h1 (by omega))
    have h5 : 10 ^ (b - a) ≤ 10 ^ 5 := Nat.pow_le_pow_right (by omega) c3.2
    rw [if_pos c3] at non
    refine part 1 (nI (t_nm w a (b - a))) (Or.inl ⟨rfl, _, by omega, rfl⟩) (Or.inl rfl) non ?_
    exact p_begN (w := w) (n := n) k1 k2 q5 q6 (by rw [← c3.1]; exact q8) (by omega) hn s2 c3.2 tbM (hdg c3.1)
  rw [if_neg c3] at non
  by_cases c4 : b - a = 1 ∧ t_nam c (w a) = true
  · obtain ⟨l1, l2, l3⟩ := t_nam.L b41 c4.2
    have s1' : t_so (w a) = 1 := (t_let _).mpr ⟨l2, l3⟩
    rw [if_pos c4] at non
    have pb := p_begL k1 k2 q5 q6 (by rw [← s1']; exact q8) (by omega) (by omega) (by rw [tbM a ha, p_nam b41 h255 a4, if_pos c4.2])
    rw [tbM a ha] at pb
    exact part 2 (nI (w a)) (Or.inr (Or.inl ⟨rfl, w a, l2, l3, l1, rfl⟩)) (Or.inr rfl) non pb
  · rw [if_neg c4] at non
    refine bad (by rw [tp0, non, x_b_some, x_zl0]) ?_
    refine p_begB (n := n) (w := w) (a := a) (b := b) (t_so (w a)) (by omega) k1 k2 q5 q6 q8 (by omega) (by omega) (fun z => by
      rcases Nat.lt_or_ge 5 (b - a) with y | y
      · exact y
      · exact absurd ⟨z, y⟩ c3) (fun z y => by
      rw [tbM a ha, p_nam b41 h255 a4, if_neg (fun x => c4 ⟨y, x⟩)])
