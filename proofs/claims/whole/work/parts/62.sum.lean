theorem w_sum {C M : xM} {nP nF nD nJ t i : Nat} (a b : Int32) (hS : r_St 1 0 C (M 1) nP nF nD nJ t) (hr : r_rows (C 26) (C 27) (fun k => M 1 (952 + k))) (hi : i_St (M 1) nP nF nD nJ t) (hip : i < nP) : ∃ r C' M', fX8_sumFor C (nI i) a b = some (r, C') ∧ fX11_sumOf M (nI i) a b = some (r, M') ∧ (∀ a b, a ≠ 29 → a ≠ 30 → C' a b = C a b) ∧ (∀ a b, a ≠ 6 → a ≠ 7 → M' a b = M a b) ∧ ∃ v, v ≤ 9999 ∧ r = nI v := by
  obtain ⟨⟨⟨c0, c1, c2, c3, c4⟩, ⟨s0, s1, s2, s3, s4⟩, ⟨n1, n2, n3, n4, n5⟩⟩, gP, gF, gD, gJ, gR, gL⟩ := id hS
  obtain ⟨iP, iF, iD, iJ, iR⟩ := hi
  obtain ⟨⟨kd, hkd, ekd⟩, -, -⟩ := iP i hip
  have g0 : C (31 + i) 0 = M 1 (30 + 3 * i) := gP i hip 0 (by decide)
  have kS : ∀ C' : xM, (∀ a b, a ≠ 29 → C' a b = C a b) → r_St 1 0 C' (M 1) nP nF nD nJ t := fun C' h => hS.keep (fun j => h _ _ (by omega)) (fun a j z => h a j (by omega))
  have hw : ∀ C' : xM, (∀ a b, a ≠ 29 → C' a b = C a b) → ∀ w, fX8_valueOf C' (nI i) w a b = some (sp_what (M 1) nF (nI i) w a b, C') := fun C' h w => by
    obtain ⟨⟨⟨_, _, k2, _, _⟩, _, _⟩, _, kF, _, _, kR, _⟩ := kS C' h
    exact c_what _ _ _ _ k2 n2 kF (kR 0 (by decide))
  have he : fX8_earnings C (nI i) a b = some (sp_earn (M 1) nF i a b, C) := c_earn _ _ c2 c1 n2 hip n1 gF gP (gR 0 (by decide)) iP
  have hy : ∀ C' : xM, (∀ a b, a ≠ 29 → C' a b = C a b) → fX8_youth C' (nI i) = some ((if 1 ≤ M 1 (30 + 3 * i) ∧ M 1 (30 + 3 * i) ≤ 2 then 1 else 0), C') := fun C' h => by
    obtain ⟨_, kP, _⟩ := kS C' h
    exact c_yth hip n1 kP iP
  have hk : ∀ C' : xM, (∀ a b, a ≠ 29 → C' a b = C a b) → fX4_isOfKind C' (31 + i) 2 = some ((if nI kd = 2 then 1 else 0), C') := fun C' h => by
    rw [c_kindP, h _ _ (by omega), g0, ekd, u_st hkd]
  have mw : ∀ M' : xM, (∀ b, M' 1 b = M 1 b) → ∀ w, fX11_whatOf M' (nI i) w a b = some (sp_what (M 1) nF (nI i) w a b, M') := fun M' h w => by
    have e : M' 1 = M 1 := funext h
    have := p_what (M := M') (nF := nF) (nI i) w a b (by rw [e]; exact s2) n2
    rw [e] at this
    exact this
  have me : fX11_earns M (nI i) a b = some (sp_earn (M 1) nF i a b, M) := p_earn _ _ s2 n2 hip n1 iP
  have my : ∀ M' : xM, (∀ b, M' 1 b = M 1 b) → fX11_isYoung M' (nI i) = some ((if 1 ≤ M 1 (30 + 3 * i) ∧ M 1 (30 + 3 * i) ≤ 2 then 1 else 0), M') := fun M' h => by
    have := p_isYoung M' (i := i) (by omega)
    rw [h] at this
    exact this
  obtain ⟨r, C', M', e1, e2, e3, e4⟩ := w_out (C := x_up (x_up (x_up (x_up (x_up (x_up C 29 8 (sp_earn (M 1) nF i a b)) 29 13 (sp_what (M 1) nF (nI i) 1 a b)) 29 22 (sp_what (M 1) nF (nI i) 2 a b)) 29 3 (sp_what (M 1) nF (nI i) 3 a b)) 29 18 (if nI kd = 2 then 1 else 0)) 29 24 (if 1 ≤ M 1 (30 + 3 * i) ∧ M 1 (30 + 3 * i) ≤ 2 then 1 else 0))
    (M := x_up (x_up (x_up (x_up (x_up (x_up M 7 105 (sp_earn (M 1) nF i a b)) 7 110 (sp_what (M 1) nF (nI i) 1 a b)) 7 119 (sp_what (M 1) nF (nI i) 2 a b)) 7 100 (sp_what (M 1) nF (nI i) 3 a b)) 7 115 (if nI kd = 2 then 1 else 0)) 7 121 (if 1 ≤ M 1 (30 + 3 * i) ∧ M 1 (30 + 3 * i) ≤ 2 then 1 else 0)) (c := 1) (by omega)
    (hr.keep (fun j => by simp (disch := omega) only [x_uo, x_uj, x_us]) (fun j => by simp (disch := omega) only [x_uo, x_uj, x_us]) (fun j => by simp (disch := omega) only [x_uo, x_uj, x_us])) (fun l hl => by
      rcases hl with ⟨h, -⟩ | ⟨-, hl⟩ | ⟨h, -⟩
      · omega
      · rcases hl with rfl | rfl | rfl | rfl | rfl | rfl <;> simp (disch := omega) only [x_uo, x_uj, x_us]
      · omega)
  obtain ⟨lv, hlv, elv⟩ := g_rule iR (j := 6) 9999 (by decide) (by decide) (by decide)
  obtain ⟨mv, hmv, emv⟩ := g_rule iR (j := 7) 9999 (by decide) (by decide) (by decide)
  have u2 : C' 23 6 = nI lv := by rw [e3 _ _ (by decide)]; simp (disch := omega) only [x_uo, x_uj, x_us]; exact (gR 6 (by decide)).trans elv
  have u3 : C' 23 7 = nI mv := by rw [e3 _ _ (by decide)]; simp (disch := omega) only [x_uo, x_uj, x_us]; exact (gR 7 (by decide)).trans emv
  have v2 : M' 1 7 = nI lv := by rw [e4 _ _ (by decide)]; simp (disch := omega) only [x_uo, x_uj, x_us]; exact elv
  have v3 : M' 1 8 = nI mv := by rw [e4 _ _ (by decide)]; simp (disch := omega) only [x_uo, x_uj, x_us]; exact emv
  refine ⟨sp_bd r (nI lv) (nI mv), C', M', ?_, ?_, ?_, ?_, ?_⟩
  · unfold fX8_sumFor
    have e1' : fX7_workOut _ 1 = _ := e1
    rw [he, x_b_some, c_si, x_v_some, hw _ (fun a b h => by simp (disch := omega) only [x_uo, x_uj, x_us]), x_b_some, c_sn, x_v_some, hw _ (fun a b h => by simp (disch := omega) only [x_uo, x_uj, x_us]), x_b_some, c_sw, x_v_some, hw _ (fun a b h => by simp (disch := omega) only [x_uo, x_uj, x_us]), x_b_some, c_sd, x_v_some, u_g (by omega) (by omega), u_c (by omega), hk _ (fun a b h => by simp (disch := omega) only [x_uo, x_uj, x_us]), x_b_some, c_oneIf, x_b_some, u_01, c_ss, x_v_some, hy _ (fun a b h => by simp (disch := omega) only [x_uo, x_uj, x_us]), x_b_some, c_sy, x_v_some, e1', x_b_some, c_bd, x_b_some, u2, u3]
  · unfold fX11_sumOf
    have e2' : fX11_worked _ 1 = _ := e2
    simp (disch := omega) only [x_l, u_3, u_g, u_c]
    rw [me, x_b_some, mw _ (fun b => by simp (disch := omega) only [x_uo, x_uj, x_us]), x_b_some, mw _ (fun b => by simp (disch := omega) only [x_uo, x_uj, x_us]), x_b_some, mw _ (fun b => by simp (disch := omega) only [x_uo, x_uj, x_us]), x_b_some]
    simp (disch := omega) only [x_uo, x_uj, x_us, ekd]
    by_cases q1 : nI kd = 2
    · rw [if_pos q1] at e2' ⊢
      rw [my _ (fun b => by simp (disch := omega) only [x_uo, x_uj, x_us]), x_b_some]
      by_cases q2 : 1 ≤ M 1 (30 + 3 * i) ∧ M 1 (30 + 3 * i) ≤ 2
      · rw [if_pos q2] at e2' ⊢
        rw [if_neg (by decide : ¬ (1 : Int32) = 0), e2', x_b_some, p_more, x_b_some, p_less, x_b_some, v2, v3]
        rfl
      · rw [if_neg q2] at e2' ⊢
        rw [if_pos rfl, e2', x_b_some, p_more, x_b_some, p_less, x_b_some, v2, v3]
        rfl
    · rw [if_neg q1] at e2' ⊢
      rw [my _ (fun b => by simp (disch := omega) only [x_uo, x_uj, x_us]), x_b_some]
      by_cases q2 : 1 ≤ M 1 (30 + 3 * i) ∧ M 1 (30 + 3 * i) ≤ 2
      · rw [if_pos q2] at e2' ⊢
        rw [if_neg (by decide : ¬ (1 : Int32) = 0), e2', x_b_some, p_more, x_b_some, p_less, x_b_some, v2, v3]
        rfl
      · rw [if_neg q2] at e2' ⊢
        rw [if_pos rfl, e2', x_b_some, p_more, x_b_some, p_less, x_b_some, v2, v3]
        rfl
  · intro a b h1 h2
    rw [e3 _ _ h2]
    simp (disch := omega) only [x_uo, x_uj, x_us]
  · intro a b h1 h2
    rw [e4 _ _ h1]
    simp (disch := omega) only [x_uo, x_uj, x_us]
  · obtain ⟨v, hv, ev⟩ := b_bd r (l := lv) (m := mv) (by omega) (by omega)
    exact ⟨v, by omega, ev⟩
