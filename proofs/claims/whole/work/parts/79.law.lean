/-! the two loops, token by token -/
noncomputable def K49 : xM → Option (Int32 × xM) := fun M => some ((M 11 2), M)
noncomputable def K63 : xM → Option (Int32 × xM) := fun M => if (M 3 6) = (2 : Int32) then (if (M 3 7) = 0 then (if (M 3 4) ≤ 0 then (x_v (fX6_endSection M) fun N => some ((-1 : Int32), N)) else (some ((M 11 1), M))) else (some ((M 11 1), M))) else (some ((M 11 1), M))
noncomputable def c_B (fu : Nat) (C : xM) (i : Int32) : Option (Int32 × xM) := x_b (fX9_isAtEnd C) fun v_25 M_23 => if v_25 = 0 then (x_b (fX9_isGlued M_23) fun v_29 M_27 => if v_29 = 0 then (x_b (fX6_takes M_27) fun v_33 M_31 => if v_33 = 0 then (K49 M_31) else (fX6_findFault_L6 K63 K63 K49 fu M_31 (i + 1))) else (K49 M_27)) else (K63 M_23)
theorem c_L6 (fu : Nat) (C : xM) (i : Int32) : fX6_findFault_L6 K63 K63 K49 (fu + 1) C i = if (120 : Int32) < i then K63 C else x_v (fX9_goOn C) fun N => c_B fu N i := by
  rw [fX6_findFault_L6]
  rfl
theorem c_ff (C : xM) : fX6_findFault C = x_v (fX6_begin C) fun N => fX6_findFault_L6 K63 K63 K49 x_FU N 0 := by
  unfold fX6_findFault
  rfl
def z_N (M : xM) (n : Nat) (w : Nat → Nat) (p s0 : Nat) : Prop := (M 0 5 = nI (t_a w n p) ∧ M 0 6 = nI (t_b w n (t_a w n p)) ∧ M 0 8 = nI (t_s w n (t_a w n p))) ∧ ((t_a w n p = p ∧ (s0 = 1 ∨ s0 = 2) ∧ (t_s w n (t_a w n p) = 1 ∨ t_s w n (t_a w n p) = 2)) ∧ M 0 10 = 1 ∧ M 0 9 = nI (t_a w n p) ∨ ¬ (t_a w n p = p ∧ (s0 = 1 ∨ s0 = 2) ∧ (t_s w n (t_a w n p) = 1 ∨ t_s w n (t_a w n p) = 2)) ∧ M 0 10 = 0)
theorem z_N.keep {M M' : xM} {n p s0 : Nat} {w : Nat → Nat} (h : z_N M n w p s0) (hm : ∀ b, b = 5 ∨ b = 6 ∨ b = 8 ∨ b = 9 ∨ b = 10 → M' 0 b = M 0 b) : z_N M' n w p s0 := by
  obtain ⟨⟨h1, h2, h3⟩, h4⟩ := h
  refine ⟨⟨(hm _ (by omega)).trans h1, (hm _ (by omega)).trans h2, (hm _ (by omega)).trans h3⟩, ?_⟩
  rcases h4 with ⟨a, b, c⟩ | ⟨a, b⟩
  · exact Or.inl ⟨a, (hm _ (by omega)).trans b, (hm _ (by omega)).trans c⟩
  · exact Or.inr ⟨a, (hm _ (by omega)).trans b⟩
theorem q_mid {C M : xM} {n p s0 : Nat} {w : Nat → Nat} (ht : z_tp C M n w) (hp : p ≤ n) (h3 : C 11 3 = nI p) (hN : z_N M n w p s0) (hpt : t_pt w p s0) : ∃ C2, fX9_goOn C = some C2 ∧ (∀ a b, ¬ (a = 11 ∧ (b = 2 ∨ b = 3)) → C2 a b = C a b) ∧ C2 11 2 = nI (t_a w n p) ∧ C2 11 3 = nI (t_b w n (t_a w n p)) ∧ ((t_a w n p < n ∧ fX9_isGlued C2 = some (1, C2) ∧ M 0 10 = 1 ∧ M 0 9 = nI (t_a w n p)) ∨ (M 0 10 = 0 ∧ (t_a w n p < n → fX9_isGlued C2 = some (0, C2)))) := by
  obtain ⟨⟨h1, -⟩, hn, hb, hw⟩ := ht
  obtain ⟨a1, a2, a3, a4⟩ := t_a.p (w := w) hp
  have fr : ∀ a b, ¬ (a = 11 ∧ (b = 2 ∨ b = 3)) → x_up (x_up C 11 2 (nI (t_a w n p))) 11 3 (nI (t_b w n (t_a w n p))) a b = C a b := fun a b h => by
    by_cases q : a = 11
    · subst q; simp (disch := omega) only [x_uo, x_uj, x_us]
    · simp (disch := omega) only [x_uo, x_uj, x_us]
  refine ⟨_, c_goOn hn hw hp h3 h1 (fun i hi => (hb i hi).1), fr, by simp (disch := omega) only [x_uo, x_uj, x_us], by simp (disch := omega) only [x_uo, x_uj, x_us], ?_⟩
  have gl : t_a w n p < n → fX9_isGlued (x_up (x_up C 11 2 (nI (t_a w n p))) 11 3 (nI (t_b w n (t_a w n p)))) = some ((if t_a w n p ≠ 0 ∧ t_so (w (t_a w n p)) ≠ 3 ∧ t_so (w (t_a w n p - 1)) ≠ 3 then 1 else 0), _) := fun h => c_glue (n := n) (a := t_a w n p) (by simp (disch := omega) only [x_uo, x_uj, x_us]; exact h1) (by simp (disch := omega) only [x_uo, x_uj, x_us]) hn h hw (fun i hi => by simp (disch := omega) only [x_uo, x_uj, x_us]; exact (hb i hi).1)
  rcases hN.2 with ⟨g1, g2, g3⟩ | ⟨g1, g2⟩
  · have hlt : t_a w n p < n := by
      rcases Nat.lt_or_ge (t_a w n p) n with z | z
      · exact z
      · have : t_s w n (t_a w n p) = 0 := by unfold t_s; rw [if_pos (by omega)]
        omega
    refine Or.inl ⟨hlt, ?_, g2, g3⟩
    rw [gl hlt, if_pos ((t_glue hp hpt hlt).mpr g1)]
  · refine Or.inr ⟨g2, fun hlt => ?_⟩
    rw [gl hlt, if_neg (fun z => g1 ((t_glue hp hpt hlt).mp z))]
noncomputable def bI (b : Bool) : Int32 := if b = true then 1 else 0
def z_G (C M : xM) (n : Nat) (w : Nat → Nat) (a c e wm tl pr nt : Nat) (L : List Nat) (wt : Bool) : Prop := z_tp C M n w ∧ ((C 11 2 = nI a ∧ C 11 3 = nI (t_b w n a)) ∧ (M 0 5 = nI a ∧ M 0 6 = nI (t_b w n a) ∧ M 0 8 = nI (t_s w n a)) ∧ a ≤ n) ∧ (M 0 10 = 0 ∧ (a < n → fX9_isGlued C = some (0, C))) ∧ C 3 7 = bI wt ∧ z_S C M c e wm (z_sg L + (if wt = true then 0 else 1)) tl pr nt L ∧ (e + wm + L.length ≤ a ∧ tl ≤ a ∧ (wt = false → L.head? ≠ some 3 ∧ 0 < tl))
def z_ps (M : xM) : Prop := ∃ x y, M 0 5 = nI x ∧ M 0 6 = nI y ∧ x ≤ 120 ∧ y ≤ 120
def z_Out (C M : xM) (n : Nat) (w : Nat → Nat) (c e : Nat) (k : xM → Option xM) (X : Option (Int32 × xM)) (Y : Option xM) : Prop :=
  (∃ q C' M', q ≤ 120 ∧ X = some (nI q, C') ∧ Y = k M' ∧ M' 0 10 = 1 ∧ M' 0 9 = nI q ∧ z_ps M' ∧ k_C C C' ∧ k_M M M') ∨
  (∃ C' M' a wm tl nt L i f, X = c_B f C' (nI i) ∧ Y = k M' ∧ z_G C' M' n w a c e wm tl 0 nt L false ∧ (a = n ∨ t_so (w a) ≠ 3 ∨ z_sc (w a) = 0) ∧ i ≤ a ∧ n - a < f ∧ k_C C C' ∧ k_M M M')
theorem z_Out.tr {C C1 M M1 : xM} {n : Nat} {w : Nat → Nat} {c e : Nat} {k : xM → Option xM} {X : Option (Int32 × xM)} {Y : Option xM} (h : z_Out C1 M1 n w c e k X Y) (hc : k_C C C1) (hm : k_M M M1) : z_Out C M n w c e k X Y := by
  rcases h with ⟨q, C', M', h1, h2, h3, h4, h5, h5', h6, h7⟩ | ⟨C', M', a, wm, tl, nt, L, i, f, h1, h2, h3, h4, h5, h6, h7, h8⟩
  · exact Or.inl ⟨q, C', M', h1, h2, h3, h4, h5, h5', hc.tr h6, hm.tr h7⟩
  · exact Or.inr ⟨C', M', a, wm, tl, nt, L, i, f, h1, h2, h3, h4, h5, h6, hc.tr h7, hm.tr h8⟩
theorem p_L19bad {M : xM} {k : xM → Option xM} {fu : Nat} {x y : Int32} (h : M 0 10 = 1) (hf : 0 < fu) : fX11_expression_L19 k fu M x y = k M := by
  cases fu with
  | zero => omega
  | succ fu =>
    rw [fX11_expression_L19, h]
    by_cases q : y = 0
    · rw [if_pos q]
    · rw [if_neg q, if_neg (by decide)]
/-- behind a token: on to the next one -/
theorem q_after {n a b c e wm tl pr nt i f fu' s0 : Nat} {w : Nat → Nat} {k : xM → Option xM} {L : List Nat} {wt : Bool} {C0 M0 C1 Mx : xM}
    (ih : ∀ (C M : xM) (a' wm tl pr nt : Nat) (L : List Nat) (wt : Bool) (i f fu' : Nat), a < a' → z_G C M n w a' c e wm tl pr nt L wt → i ≤ a' → n - a' < f → n - a' + 1 < fu' → z_Out C M n w c e k (c_B f C (nI i)) (fX11_expression_L19 k fu' M (bI wt) 1))
    (hC : k_C C0 C1) (hM : k_M M0 Mx) (ht : z_tp C1 Mx n w) (hN : z_N Mx n w b s0) (h3 : C1 11 3 = nI b) (hab : a < b) (hbn : b ≤ n) (hpt : t_pt w b s0) (h37 : C1 3 7 = bI wt) (hS : z_S C1 Mx c e wm (z_sg L + (if wt = true then 0 else 1)) tl pr nt L) (hz : e + wm + L.length ≤ b) (htl : tl ≤ b) (hwt : wt = false → L.head? ≠ some 3 ∧ 0 < tl) (hi : i + 1 ≤ b) (hf : n - b + 1 < f) (hf' : n - b + 1 < fu') : z_Out C0 M0 n w c e k (fX6_findFault_L6 K63 K63 K49 f C1 (nI i + 1)) (fX11_expression_L19 k fu' Mx (bI wt) 1) := by
  obtain ⟨C2, e1, e2, e3, e4, e5⟩ := q_mid ht hbn h3 hN hpt
  obtain ⟨a1, a2, a3, a4⟩ := t_a.p (w := w) hbn
  obtain ⟨⟨t1, t2⟩, hn, tb, tw⟩ := id ht
  obtain ⟨f1, rfl⟩ : ∃ f1, f = f1 + 1 := ⟨f - 1, by omega⟩
  have kc : k_C C1 C2 := fun x y q => e2 x y (by omega)
  rw [c_L6, u_a1, if_neg (show ¬ (120 : Int32) < nI (i + 1) by
    intro z
    have : (nI 120 : Int32) < nI (i + 1) := z
    rw [l_ltn (by omega) (by omega)] at this
    omega), e1, x_v_some]
  rcases e5 with ⟨g1, g2, g3, g4⟩ | ⟨g1, g2⟩
  · refine Or.inl ⟨t_a w n b, C2, Mx, by omega, ?_, p_L19bad g3 (by omega), g3, g4, ⟨_, _, hN.1.1, hN.1.2.1, by omega, by have := (t_b.p (w := w) g1).2.1; omega⟩, hC.tr kc, hM⟩
    unfold c_B
    rw [c_end (n := n) (a := t_a w n b) ((e2 _ _ (by omega)).trans t1) e3 hn a2, x_b_some, if_neg (show ¬ t_a w n b = n by omega), if_pos rfl, g2, x_b_some, if_neg (by decide : ¬ (1 : Int32) = 0)]
    unfold K49
    rw [e3]
  · refine z_Out.tr (ih C2 Mx (t_a w n b) wm tl pr nt L wt (i + 1) f1 fu' (by omega) ⟨⟨⟨(e2 _ _ (by omega)).trans t1, t2⟩, hn, fun j hj => ⟨(e2 _ _ (by omega)).trans (tb j hj).1, (tb j hj).2⟩, tw⟩, ⟨⟨e3, e4⟩, hN.1, a2⟩, ⟨g1, g2⟩, (e2 _ _ (by omega)).trans h37, hS.keep (fun x y q => e2 x y (by omega)) (fun _ _ _ => rfl), ⟨by omega, by omega, hwt⟩⟩ (by omega) (by omega) (by omega)) (hC.tr kc) hM
theorem z_S.tally {C M : xM} {c e wm d tl pr nt : Nat} {L : List Nat} (h : z_S C M c e wm d tl pr nt L) : z_S (x_up C 12 3 (nI (tl + 1))) (x_up M 0 13 (nI (tl + 1))) c e wm d (tl + 1) pr nt L := by
  obtain ⟨⟨⟨a1, a2⟩, ⟨a3, a4⟩, ⟨a5, a6⟩, ⟨a7, a8⟩, ⟨a9, a10⟩, ⟨a11, a12⟩⟩, ⟨b1, b2⟩, b3, b4, b5⟩ := h
  exact ⟨⟨⟨by simp (disch := omega) only [x_uo, x_uj, x_us]; exact a1, by simp (disch := omega) only [x_uo, x_uj, x_us]; exact a2⟩, ⟨by simp (disch := omega) only [x_uo, x_uj, x_us]; exact a3, by simp (disch := omega) only [x_uo, x_uj, x_us]; exact a4⟩, ⟨by simp (disch := omega) only [x_uo, x_uj, x_us]; exact a5, by simp (disch := omega) only [x_uo, x_uj, x_us]; exact a6⟩, ⟨by simp (disch := omega) only [x_uo, x_uj, x_us]; exact a7, by simp (disch := omega) only [x_uo, x_uj, x_us]; exact a8⟩, ⟨by simp (disch := omega) only [x_uo, x_uj, x_us]; exact a9, by simp (disch := omega) only [x_uo, x_uj, x_us]; exact a10⟩, ⟨by simp (disch := omega) only [x_uo, x_uj, x_us], by simp (disch := omega) only [x_uo, x_uj, x_us]⟩⟩, ⟨b1.keep (fun j _ => by simp (disch := omega) only [x_uo, x_uj, x_us]) (fun j _ => by simp (disch := omega) only [x_uo, x_uj, x_us]), b2⟩, b3.keep (fun k _ => by simp (disch := omega) only [x_uo, x_uj, x_us]) (fun k _ => by simp (disch := omega) only [x_uo, x_uj, x_us]), b4, b5.keep (fun j _ => by simp (disch := omega) only [x_uo, x_uj, x_us]) (fun k _ => by simp (disch := omega) only [x_uo, x_uj, x_us]) (fun k _ => by simp (disch := omega) only [x_uo, x_uj, x_us])⟩
/-- a part is at an end: the nots, and the next token -/
theorem q_partEnd {n a b c e wm tl pr nt i f fu' s0 : Nat} {w : Nat → Nat} {k : xM → Option xM} {L : List Nat} {C0 M0 C1 M1 : xM}
    (ih : ∀ (C M : xM) (a' wm tl pr nt : Nat) (L : List Nat) (wt : Bool) (i f fu' : Nat), a < a' → z_G C M n w a' c e wm tl pr nt L wt → i ≤ a' → n - a' < f → n - a' + 1 < fu' → z_Out C M n w c e k (c_B f C (nI i)) (fX11_expression_L19 k fu' M (bI wt) 1))
    (hC : k_C C0 C1) (hM : k_M M0 M1) (ht : z_tp C1 M1 n w) (h10 : M1 0 10 = 0) (h3 : C1 11 3 = nI b) (h6 : M1 0 6 = nI b) (h8 : M1 0 8 = nI s0) (hs0 : s0 ≤ 3) (hab : a < b) (hbn : b ≤ n) (hpt : t_pt w b s0) (hS : z_S C1 M1 c e wm (z_sg L + 1) tl pr nt L) (hz : e + wm + L.length ≤ b) (htl : tl ≤ b) (htl0 : 0 < tl) (hi : i + 1 ≤ b) (hf : n - b + 1 < f) (hf' : n - b + 1 < fu') :
    ∃ C2 M2 M3, fX6_endPart C1 = some C2 ∧ fX11_next M1 = some M2 ∧ fX11_parted M2 = some M3 ∧ z_Out C0 M0 n w c e k (fX6_findFault_L6 K63 K63 K49 f C2 (nI i + 1)) (fX11_expression_L19 k fu' M3 0 1) := by
  obtain ⟨⟨t1, t2⟩, hn, tb, tw⟩ := id ht
  obtain ⟨M2, m1, m2, m3, m4, m5, m6⟩ := p_next hn tw hbn h10 h6 t2 h8 hs0 (fun j hj => (tb j hj).2)
  have hS2 : z_S C1 M2 c e wm (z_sg L + 1) tl pr nt L := hS.keep (fun _ _ _ => rfl) (fun x y q => m2 x y (by omega))
  have hnt := hS.2.2.2.1.2.2
  obtain ⟨C', M3, L', wm', nt', e1, e2, e3, e4, e5, e6, e7, e8⟩ := q_nots (fun (M_2 : xM) => x_l (x_up M_2 3 7 (0 : Int32)) fun M_3 => some M_3) (by omega) L C1 M2 wm nt 0 x_FU x_FU hS2 (by omega) (by omega) (by rw [x_FU_eq]; omega) (by rw [x_FU_eq]; omega)
  refine ⟨x_up C' 3 7 0, M2, M3, ?_, m1, e2, ?_⟩
  · unfold fX6_endPart
    exact e1
  · have km : k_M M1 M3 := fun x y q => (e8 x y (by omega)).trans (m2 x y (by omega))
    have kc : k_C C1 (x_up C' 3 7 0) := fun x y q => by
      rw [x_uo (by omega)]
      exact e7 x y (by omega)
    refine q_after (a := a) (b := b) (s0 := s0) (wm := wm') (tl := tl) (pr := pr) (nt := nt') (L := L') (wt := false) ih (hC.tr kc) (hM.tr km) ⟨⟨by simp (disch := omega) only [x_uo, x_uj, x_us]; exact (e7 _ _ (by omega)).trans t1, (e8 _ _ (by omega)).trans ((m2 _ _ (by omega)).trans t2)⟩, hn, fun j hj => ⟨by simp (disch := omega) only [x_uo, x_uj, x_us]; exact (e7 _ _ (by omega)).trans (tb j hj).1, (e8 _ _ (by omega)).trans ((m2 _ _ (by omega)).trans (tb j hj).2)⟩, tw⟩ (z_N.keep (M := M2) ⟨⟨m3, m4, m5⟩, m6⟩ (fun x q => e8 0 x (by omega))) (by simp (disch := omega) only [x_uo, x_uj, x_us]; exact (e7 _ _ (by omega)).trans h3) hab hbn hpt (by simp (disch := omega) only [x_uo, x_uj, x_us]; rfl) (by
      have := e3.keep (C' := x_up C' 3 7 0) (M' := M3) (fun x y q => by
        by_cases z : x = 3
        · subst z; simp (disch := omega) only [x_uo, x_uj, x_us]
        · simp (disch := omega) only [x_uo, x_uj, x_us]) (fun _ _ _ => rfl)
      rw [← e5] at this
      exact this) (by omega) htl (fun _ => ⟨e4, htl0⟩) hi hf hf'
