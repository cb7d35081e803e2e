theorem u_m1s (n : Nat) (h : 1 ≤ n) : nI n - 1 = nI (n - 1) := by
  obtain ⟨m, rfl⟩ : ∃ m, n = m + 1 := ⟨n - 1, by omega⟩
  exact u_m1 m
theorem z_ct3 (r : List Nat) : z_ct 3 (3 :: r) = 1 + z_ct 3 r ∧ z_ct 1 (3 :: r) = z_ct 1 r := ⟨rfl, Nat.zero_add _⟩
/-- behind a part: the nots -/
theorem q_nots {c e d tl pr : Nat} (k : xM → Option xM) (hd : 1 ≤ d) : ∀ (L : List Nat) (C M : xM) (wm nt i fu fu' : Nat), z_S C M c e wm d tl pr nt L → e + wm + L.length ≤ 120 → i + nt ≤ 8 → 8 - i < fu → L.length < fu' → ∃ C' M' L' wm' nt', fX6_endPart_L2 k fu C (nI i) = k C' ∧ fX11_parted_L0 fu' M = some M' ∧ z_S C' M' c e wm' d tl pr nt' L' ∧ L'.head? ≠ some 3 ∧ z_sg L' = z_sg L ∧ wm' + L'.length = wm + L.length ∧ (∀ a b, ¬ (a = 15 ∨ (a = 12 ∧ b = 2) ∨ (a = 3 ∧ (b = 3 ∨ b = 5))) → C' a b = C a b) ∧ (∀ a b, ¬ (a = 4 ∨ (a = 0 ∧ (b = 12 ∨ b = 16 ∨ b = 18))) → M' a b = M a b) := by
  intro L
  induction L with
  | nil =>
    intro C M wm nt i fu fu' hS hz hi hf hf'
    obtain ⟨⟨-, -, ⟨a5, a6⟩, -⟩, ⟨b1, -⟩, -⟩ := id hS
    cases fu with
    | zero => omega
    | succ fu => cases fu' with
      | zero => omega
      | succ fu' =>
        refine ⟨C, M, [], wm, nt, ?_, ?_, hS, by simp, rfl, rfl, fun _ _ _ => rfl, fun _ _ _ => rfl⟩
        · rw [fX6_endPart_L2, c_top a5 (by show 0 ≤ 120; omega) b1, x_b_some]
          by_cases q : (8 : Int32) ≤ nI i
          · rw [if_pos q]
          · rw [if_neg q]; rfl
        · rw [fX11_parted_L0, a6]; rfl
  | cons x r ih =>
    intro C M wm nt i fu fu' hS hz hi hf hf'
    obtain ⟨⟨⟨a1, a2⟩, ⟨a3, a4⟩, ⟨a5, a6⟩, ⟨a7, a8⟩, ⟨a9, a10⟩, ⟨a11, a12⟩⟩, ⟨b1, b2, b6, b7⟩, b3, ⟨b41, b42, b43⟩, b5⟩ := id hS
    obtain ⟨⟨p1, p2⟩, p3, p4, p5⟩ := hS.pop
    have hl : (x :: r).length = r.length + 1 := rfl
    rw [hl] at a5 a6 hz hf'
    cases fu with
    | zero => omega
    | succ fu => cases fu' with
      | zero => omega
      | succ fu' =>
        obtain ⟨hc1, hc2, hc3, hc4⟩ := p3.hc
        have ep : M 0 16 - 1 = nI r.length := p2
        have mo : ¬ M 0 16 ≤ 0 := by rw [a6, kn0_le (by omega)]; omega
        by_cases q : x = 3
        · subst q
          obtain ⟨z1, z2⟩ := z_ct3 r
          have hi8 : i < 8 := by omega
          have hn : nI nt - 1 = nI (nt - 1) := u_m1s nt (by omega)
          have W := hS.wordE (W := 3) (V := 0) (d' := d) (Or.inr (Or.inr ⟨Or.inl rfl, rfl⟩)) (by rw [if_neg (by decide), if_pos rfl, if_pos hd])
          have W2 := W.pop' (C' := x_up (x_up (x_up (x_up C 15 (e + wm) (-33)) 12 2 (nI (e + wm + 1))) 3 3 (nI r.length)) 3 5 (nI (nt - 1))) (M' := x_up (x_up (x_up (x_up (x_up M 0 16 (nI r.length)) 0 18 (nI (nt - 1))) 4 (241 * c + 1 + 2 * wm) 3) 4 (241 * c + 1 + (2 * wm + 1)) 0) 0 12 (nI (wm + 1))) (pr' := pr) (nt' := nt - 1) (fun a b h => by
              by_cases y : a = 3
              · subst y; simp (disch := omega) only [x_uo, x_uj, x_us]
              · simp (disch := omega) only [x_uo, x_uj, x_us]; rfl) (fun a b h => by
              by_cases y : a = 0
              · subst y
                by_cases y2 : b = 12
                · subst y2; simp (disch := omega) only [x_uo, x_uj, x_us]
                · simp (disch := omega) only [x_uo, x_uj, x_us]
              · by_cases y2 : a = 4
                · subst y2
                  simp [x_up_at]
                · simp (disch := omega) only [x_uo, x_uj, x_us]) (by simp (disch := omega) only [x_uo, x_uj, x_us]) (by simp (disch := omega) only [x_uo, x_uj, x_us]) (by simp (disch := omega) only [x_uo, x_uj, x_us]; exact a7) (by simp (disch := omega) only [x_uo, x_uj, x_us]; exact a8) (by simp (disch := omega) only [x_uo, x_uj, x_us]) (by simp (disch := omega) only [x_uo, x_uj, x_us]) (by omega) (by omega)
          obtain ⟨C', M', L', wm', nt', e1, e2, e3, e4, e5, e6, e7, e8⟩ := ih _ _ (wm + 1) (nt - 1) (i + 1) fu fu' W2 (by omega) (by omega) (by omega) (by omega)
          refine ⟨C', M', L', wm', nt', ?_, ?_, e3, e4, ?_, by omega, fun a b h => ?_, fun a b h => ?_⟩
          · rw [fX6_endPart_L2, if_neg (show ¬ (8 : Int32) ≤ nI i from u_lie (b := 8) hi8 (by decide)), c_top (L := 3 :: r) (by rw [hl]; exact a5) (by rw [hl]; omega) b1, x_b_some, if_pos (show z_tp0 (3 :: r) = (33 : Int32) from rfl), c_write _ a1 (by omega), x_v_some]
            simp (disch := omega) only [x_lb, x_uo, x_uj, x_us, p1, a9, hn, u_a1]
            exact e1
          · rw [fX11_parted_L0, if_neg mo, ep, u_g (by omega) (by omega), u_c (by omega), p5, if_pos (show nI 3 = (3 : Int32) from rfl)]
            simp (disch := omega) only [x_lb, x_uo, x_uj, x_us, a10, hn]
            rw [p_emit (c := c) (wm := wm) 3 0 (by simp (disch := omega) only [x_uo, x_uj, x_us]; exact a4) b41 (by simp (disch := omega) only [x_uo, x_uj, x_us]; exact a2) (by omega), x_v_some]
            exact e2
          · rw [e5]; show _ = (if 10 ≤ 3 then 1 else 0) + z_sg r; simp
          · rw [e7 a b h]
            by_cases y : a = 3
            · subst y; simp (disch := omega) only [x_uo, x_uj, x_us]
            · by_cases y2 : a = 12
              · subst y2; simp (disch := omega) only [x_uo, x_uj, x_us]
              · simp (disch := omega) only [x_uo, x_uj, x_us]
          · rw [e8 a b h]
            by_cases y : a = 0
            · subst y; simp (disch := omega) only [x_uo, x_uj, x_us]
            · simp (disch := omega) only [x_uo, x_uj, x_us]
        · refine ⟨C, M, x :: r, wm, nt, ?_, ?_, hS, fun z => q (Option.some.inj z), rfl, rfl, fun _ _ _ => rfl, fun _ _ _ => rfl⟩
          · rw [fX6_endPart_L2, c_top (L := x :: r) (by rw [hl]; exact a5) (by rw [hl]; omega) b1, x_b_some, if_neg (show ¬ z_tp0 (x :: r) = (33 : Int32) from fun z => by
              have : nI (z_hc x) = nI 33 := z
              rw [l_eqn (by omega) (by omega)] at this
              exact q (hc2.mp this)), ite_self]
          · rw [fX11_parted_L0, if_neg mo, ep, u_g (by omega) (by omega), u_c (by omega), p5, if_neg (by rw [kn3_eq (by omega)]; exact q)]
/-- what binds as tightly or tighter is written -/
theorem q_rel {c e tl pr nt t : Nat} (ht1 : 1 ≤ t) (ht5 : t ≤ 5) : ∀ (L : List Nat) (C M : xM) (wm i fu fu' : Nat), z_S C M c e wm (z_sg L + 1) tl pr nt L → L.head? ≠ some 3 → e + wm + L.length ≤ 120 → i + L.length ≤ 120 → 120 - i < fu → L.length < fu' → ∃ C' M' L' wm', fX6_release_L2 (nI t) fu C (nI i) = some C' ∧ fX11_works_L0 (nI t) fu' M = some M' ∧ z_S C' M' c e wm' (z_sg L' + 1) tl pr nt L' ∧ L'.head? ≠ some 3 ∧ (∀ x, L'.head? = some x → z_tt x < t) ∧ wm' + L'.length = wm + L.length ∧ (∀ a b, ¬ (a = 15 ∨ (a = 12 ∧ b = 2) ∨ (a = 3 ∧ b = 3)) → C' a b = C a b) ∧ (∀ a b, ¬ (a = 4 ∨ (a = 0 ∧ (b = 12 ∨ b = 16))) → M' a b = M a b) := by
  intro L
  induction L with
  | nil =>
    intro C M wm i fu fu' hS h3 hz hi hf hf'
    obtain ⟨⟨-, -, ⟨a5, a6⟩, -⟩, ⟨b1, -⟩, -⟩ := id hS
    cases fu with
    | zero => omega
    | succ fu => cases fu' with
      | zero => omega
      | succ fu' =>
        refine ⟨C, M, [], wm, ?_, ?_, hS, by simp, (fun x h => by cases h), rfl, fun _ _ _ => rfl, fun _ _ _ => rfl⟩
        · rw [fX6_release_L2, c_top a5 (by show 0 ≤ 120; omega) b1, x_b_some, show z_tp0 [] = 0 from rfl, c_tt0, x_b_some, if_pos (show (0 : Int32) < nI t from nI_lt (a := 0) (by omega) (by omega)), ite_self]
        · rw [fX11_works_L0, a6]; rfl
  | cons x r ih =>
    intro C M wm i fu fu' hS h3 hz hi hf hf'
    obtain ⟨⟨⟨a1, a2⟩, ⟨a3, a4⟩, ⟨a5, a6⟩, ⟨a7, a8⟩, ⟨a9, a10⟩, ⟨a11, a12⟩⟩, ⟨b1, b2, b6, b7⟩, b3, ⟨b41, b42, b43⟩, b5⟩ := id hS
    obtain ⟨⟨p1, p2⟩, p3, p4, p5⟩ := hS.pop
    have hl : (x :: r).length = r.length + 1 := rfl
    rw [hl] at a5 a6 hz hf' hi
    cases fu with
    | zero => omega
    | succ fu => cases fu' with
      | zero => omega
      | succ fu' =>
        obtain ⟨hc1, hc2, hc3, hc4⟩ := p3.hc
        have mo : ¬ M 0 16 ≤ 0 := by rw [a6, kn0_le (by omega)]; omega
        have htt : z_tt x ≤ 5 := by unfold z_tt; split <;> omega
        have top := c_top (L := x :: r) (by rw [hl]; exact a5) (by rw [hl]; omega) b1
        have e10 : nI x / (10 : Int32) = nI (x / 10) := pk_div (d := 10) (by omega) (by decide) (by decide)
        by_cases q : z_tt x < t
        · refine ⟨C, M, x :: r, wm, ?_, ?_, hS, h3, (fun y h => by cases h; exact q), rfl, fun _ _ _ => rfl, fun _ _ _ => rfl⟩
          · rw [fX6_release_L2, if_neg (show ¬ (120 : Int32) ≤ nI i from u_lie (b := 120) (by omega) (by decide)), top, x_b_some, show z_tp0 (x :: r) = nI (z_hc x) from rfl, c_tt p3, x_b_some, if_pos (nI_lt q (by omega))]
          · rw [fX11_works_L0, if_neg mo, p2, u_g (by omega) (by omega), u_c (by omega), p5]
            by_cases y : x < 10
            · rw [if_pos (by rw [kn10_lt (by omega)]; exact y)]
            · rw [if_neg (by rw [kn10_lt (by omega)]; exact y), u_g (by omega) (by omega), e10, if_pos (nI_lt (by unfold z_tt at q; rw [if_pos (by omega)] at q; exact q) (by omega))]
        · have h10 : 10 ≤ x := by
            unfold z_tt at q
            by_cases y : 10 ≤ x
            · exact y
            · rw [if_neg y] at q; omega
          have hq : ¬ x / 10 < t := by unfold z_tt at q; rw [if_pos h10] at q; exact q
          obtain ⟨i1, i2, i3, i4⟩ := z_it p3 h10
          have sg : z_sg (x :: r) = z_sg r + 1 := by show (if 10 ≤ x then 1 else 0) + z_sg r = _; rw [if_pos h10]; omega
          have ct1 : z_ct 1 (x :: r) = z_ct 1 r := by show (if x = 1 then 1 else 0) + z_ct 1 r = _; rw [if_neg (by omega)]; omega
          have ct3 : z_ct 3 (x :: r) = z_ct 3 r := by show (if x = 3 then 1 else 0) + z_ct 3 r = _; rw [if_neg (by omega)]; omega
          have W := hS.wordE (W := nI x) (V := 0) (d' := z_sg r + 1) (i2 _) (by rw [if_neg i3, if_neg i4, if_pos (by omega), sg]; rfl)
          rw [i1] at W
          have W2 := W.pop' (C' := x_up (x_up (x_up C 15 (e + wm) (-nI (z_hc x))) 12 2 (nI (e + wm + 1))) 3 3 (nI r.length)) (M' := x_up (x_up (x_up (x_up M 0 16 (nI r.length)) 4 (241 * c + 1 + 2 * wm) (nI x)) 4 (241 * c + 1 + (2 * wm + 1)) 0) 0 12 (nI (wm + 1))) (pr' := pr) (nt' := nt) (fun a b h => by
              by_cases y : a = 3
              · subst y; simp (disch := omega) only [x_uo, x_uj, x_us]
              · simp (disch := omega) only [x_uo, x_uj, x_us]) (fun a b h => by
              by_cases y : a = 0
              · subst y
                by_cases y2 : b = 12
                · subst y2; simp (disch := omega) only [x_uo, x_uj, x_us]
                · simp (disch := omega) only [x_uo, x_uj, x_us]
              · by_cases y2 : a = 4
                · subst y2
                  simp [x_up_at]
                · simp (disch := omega) only [x_uo, x_uj, x_us]) (by simp (disch := omega) only [x_uo, x_uj, x_us]) (by simp (disch := omega) only [x_uo, x_uj, x_us]) (by simp (disch := omega) only [x_uo, x_uj, x_us]; exact a7) (by simp (disch := omega) only [x_uo, x_uj, x_us]; exact a8) (by simp (disch := omega) only [x_uo, x_uj, x_us]; exact a9) (by simp (disch := omega) only [x_uo, x_uj, x_us]; exact a10) (by omega) (by omega)
          have h3' : r.head? ≠ some 3 := fun z => by
            have := b2.1 3 z rfl
            omega
          obtain ⟨C', M', L', wm', e1, e2, e3, e4, e5, e6, e7, e8⟩ := ih _ _ (wm + 1) (i + 1) fu fu' W2 h3' (by omega) (by omega) (by omega) (by omega)
          refine ⟨C', M', L', wm', ?_, ?_, e3, e4, e5, by omega, fun a b h => ?_, fun a b h => ?_⟩
          · rw [fX6_release_L2, if_neg (show ¬ (120 : Int32) ≤ nI i from u_lie (b := 120) (by omega) (by decide)), top, x_b_some, show z_tp0 (x :: r) = nI (z_hc x) from rfl, c_tt p3, x_b_some, if_neg (show ¬ nI (z_tt x) < nI t by rw [l_ltn (by omega) (by omega)]; exact q), top, x_b_some, show z_tp0 (x :: r) = nI (z_hc x) from rfl, c_write _ a1 (by omega), x_v_some]
            simp (disch := omega) only [x_lb, x_uo, x_uj, x_us, p1, u_a1]
            exact e1
          · rw [fX11_works_L0, if_neg mo, p2, u_g (by omega) (by omega), u_c (by omega), p5, if_neg (by rw [kn10_lt (by omega)]; omega), u_g (by omega) (by omega), e10, if_neg (by rw [l_ltn (by omega) (by omega)]; exact hq)]
            simp (disch := omega) only [x_lb, x_uo, x_uj, x_us, u_g, u_c, p5]
            rw [p_emit (c := c) (wm := wm) (nI x) 0 (by simp (disch := omega) only [x_uo, x_uj, x_us]; exact a4) b41 (by simp (disch := omega) only [x_uo, x_uj, x_us]; exact a2) (by omega), x_v_some]
            exact e2
          · rw [e7 a b h]
            by_cases y : a = 3
            · subst y; simp (disch := omega) only [x_uo, x_uj, x_us]
            · by_cases y2 : a = 12
              · subst y2; simp (disch := omega) only [x_uo, x_uj, x_us]
              · simp (disch := omega) only [x_uo, x_uj, x_us]
          · rw [e8 a b h]
            by_cases y : a = 0
            · subst y; simp (disch := omega) only [x_uo, x_uj, x_us]
            · simp (disch := omega) only [x_uo, x_uj, x_us]
