theorem u_10i (c : Prop) [Decidable c] : (if (if c then 0 else 1 : Int32) = 0 then (0 : Int32) else 1) = if c then 0 else 1 := by
  by_cases h : c
  · rw [if_pos h]; rfl
  · rw [if_neg h]; rfl
/-- one deed's days -/
theorem w_worth {C M : xM} {nP nF nD nJ t d : Nat} (hS : r_St 1 0 C (M 1) nP nF nD nJ t) (hr : r_rows (C 26) (C 27) (fun k => M 1 (952 + k))) (hi : i_St (M 1) nP nF nD nJ t) (hd : d < nD) : ∃ r C' M', fX8_daysFor C (139 + d) = some (r, C') ∧ fX11_worthOf M (nI d) = some (r, M') ∧ (∀ a b, a ≠ 29 → a ≠ 30 → C' a b = C a b) ∧ (∀ a b, a ≠ 6 → a ≠ 7 → M' a b = M a b) ∧ ∃ v, v ≤ 999 ∧ r = nI v := by
  obtain ⟨⟨⟨c0, c1, c2, c3, c4⟩, ⟨s0, s1, s2, s3, s4⟩, ⟨n1, n2, n3, n4, n5⟩⟩, gP, gF, gD, gJ, gR, gL⟩ := id hS
  obtain ⟨iP, iF, iD, iJ, iR⟩ := hi
  obtain ⟨⟨kd, hkd, ekd⟩, ⟨q, hq, eq⟩, -⟩ := iD d hd
  have g0 : C (139 + d) 0 = M 1 (642 + 5 * d) := gD d hd 0 (by decide)
  have g1 : C (139 + d) 1 = M 1 (642 + 5 * d + 1) := gD d hd 1 (by decide)
  have g3 : C (139 + d) 3 = M 1 (642 + 5 * d + 3) := gD d hd 3 (by decide)
  have kS : ∀ C' : xM, (∀ a b, a ≠ 29 → C' a b = C a b) → r_St 1 0 C' (M 1) nP nF nD nJ t := fun C' h => hS.keep (fun j => h _ _ (by omega)) (fun a j z => h a j (by omega))
  have hp : ∀ C' : xM, (∀ a b, a ≠ 29 → C' a b = C a b) → fX8_pastOf C' (139 + d) = some (sp_past (M 1) nJ d, C') := fun C' h => by
    obtain ⟨⟨⟨_, _, _, _, k4⟩, _, _⟩, _, _, kD, kJ, kR, _⟩ := kS C' h
    exact c_past k4 n4 hd n3 kD kJ (kR 1 (by decide))
  have hy : ∀ C' : xM, (∀ a b, a ≠ 29 → C' a b = C a b) → fX8_youth C' (nI q) = some ((if 1 ≤ M 1 (30 + 3 * q) ∧ M 1 (30 + 3 * q) ≤ 2 then 1 else 0), C') := fun C' h => by
    obtain ⟨_, kP, _⟩ := kS C' h
    exact c_yth hq n1 kP iP
  have hk : ∀ C' : xM, (∀ a b, a ≠ 29 → C' a b = C a b) → fX0_isOfKind C' (139 + d) 2 = some ((if nI kd < 2 then 0 else 1), C') := fun C' h => by
    rw [c_kindD, h _ _ (by omega), g0, ekd, u_kd hkd]
  have mp : ∀ M' : xM, (∀ b, M' 1 b = M 1 b) → fX11_past M' (nI d) = some (sp_past (M 1) nJ d, M') := fun M' h => by
    have e : M' 1 = M 1 := funext h
    have := p_past (M := M') (nJ := nJ) (d := d) (by rw [e]; exact s4) n4 (by omega)
    rw [e] at this
    exact this
  have my : ∀ M' : xM, (∀ b, M' 1 b = M 1 b) → fX11_isYoung M' (nI q) = some ((if 1 ≤ M 1 (30 + 3 * q) ∧ M 1 (30 + 3 * q) ≤ 2 then 1 else 0), M') := fun M' h => by
    have := p_isYoung M' (i := q) (by omega)
    rw [h] at this
    exact this
  obtain ⟨r, C', M', e1, e2, e3, e4⟩ := w_out (C := x_up (x_up (x_up (x_up (x_up C 29 6 (M 1 (642 + 5 * d + 3))) 29 15 (sp_past (M 1) nJ d)) 29 0 (if nI kd < 2 then 0 else 1)) 29 10 (nI kd)) 29 24 (if 1 ≤ M 1 (30 + 3 * q) ∧ M 1 (30 + 3 * q) ≤ 2 then 1 else 0))
    (M := x_up (x_up (x_up (x_up (x_up M 7 103 (M 1 (642 + 5 * d + 3))) 7 112 (sp_past (M 1) nJ d)) 7 97 (if nI kd < 2 then 0 else 1)) 7 107 (nI kd)) 7 121 (if 1 ≤ M 1 (30 + 3 * q) ∧ M 1 (30 + 3 * q) ≤ 2 then 1 else 0)) (c := 0) (by omega)
    (hr.keep (fun j => by simp (disch := omega) only [x_uo, x_uj, x_us]) (fun j => by simp (disch := omega) only [x_uo, x_uj, x_us]) (fun j => by simp (disch := omega) only [x_uo, x_uj, x_us])) (fun l hl => by
      rcases hl with ⟨-, hl⟩ | ⟨h, -⟩ | ⟨h, -⟩
      · rcases hl with rfl | rfl | rfl | rfl | rfl <;> simp (disch := omega) only [x_uo, x_uj, x_us]
      · omega
      · omega)
  obtain ⟨lv, hlv, elv⟩ := g_rule iR (j := 2) 999 (by decide) (by decide) (by decide)
  obtain ⟨mv, hmv, emv⟩ := g_rule iR (j := 3) 999 (by decide) (by decide) (by decide)
  have u2 : C' 23 2 = nI lv := by rw [e3 _ _ (by decide)]; simp (disch := omega) only [x_uo, x_uj, x_us]; exact (gR 2 (by decide)).trans elv
  have u3 : C' 23 3 = nI mv := by rw [e3 _ _ (by decide)]; simp (disch := omega) only [x_uo, x_uj, x_us]; exact (gR 3 (by decide)).trans emv
  have v2 : M' 1 3 = nI lv := by rw [e4 _ _ (by decide)]; simp (disch := omega) only [x_uo, x_uj, x_us]; exact elv
  have v3 : M' 1 4 = nI mv := by rw [e4 _ _ (by decide)]; simp (disch := omega) only [x_uo, x_uj, x_us]; exact emv
  refine ⟨sp_bd r (nI lv) (nI mv), C', M', ?_, ?_, ?_, ?_, ?_⟩
  · unfold fX8_daysFor
    have e1' : fX7_workOut _ 0 = _ := e1
    rw [g3, c_sg, x_v_some, hp _ (fun a b h => by simp (disch := omega) only [x_uo, x_uj, x_us]), x_b_some, c_sp, x_v_some, hk _ (fun a b h => by simp (disch := omega) only [x_uo, x_uj, x_us]), x_b_some, c_oneIf, x_b_some, u_10i, c_sa, x_v_some]
    simp (disch := omega) only [x_uo, x_uj, x_us, g0, ekd]
    rw [c_sk, x_v_some]
    simp (disch := omega) only [x_uo, x_uj, x_us, g1, eq]
    rw [hy _ (fun a b h => by simp (disch := omega) only [x_uo, x_uj, x_us]), x_b_some, c_sy, x_v_some, e1', x_b_some, c_bd, x_b_some, u2, u3]
  · unfold fX11_worthOf
    have e2' : fX11_worked _ 0 = _ := e2
    simp (disch := omega) only [x_l, u_5, u_a1, u_a3, u_g, u_c]
    rw [mp _ (fun b => by simp (disch := omega) only [x_uo, x_uj, x_us]), x_b_some]
    simp (disch := omega) only [x_uo, x_uj, x_us, ekd, eq]
    by_cases q1 : nI kd < 2
    · rw [if_pos q1] at e2' ⊢
      rw [my _ (fun b => by simp (disch := omega) only [x_uo, x_uj, x_us]), x_b_some]
      by_cases q2 : 1 ≤ M 1 (30 + 3 * q) ∧ M 1 (30 + 3 * q) ≤ 2
      · rw [if_pos q2] at e2' ⊢
        rw [if_neg (by decide : ¬ (1 : Int32) = 0), e2', x_b_some, p_more, x_b_some, p_less, x_b_some, v2, v3]
        rfl
      · rw [if_neg q2] at e2' ⊢
        rw [if_pos rfl, e2', x_b_some, p_more, x_b_some, p_less, x_b_some, v2, v3]
        rfl
    · rw [if_neg q1] at e2' ⊢
      rw [my _ (fun b => by simp (disch := omega) only [x_uo, x_uj, x_us]), x_b_some]
      by_cases q2 : 1 ≤ M 1 (30 + 3 * q) ∧ M 1 (30 + 3 * q) ≤ 2
      · rw [if_pos q2] at e2' ⊢
        rw [if_neg (by decide : ¬ (1 : Int32) = 0), e2', x_b_some, p_more, x_b_some, p_less, x_b_some, v2, v3]
        rfl
      · rw [if_neg q2] at e2' ⊢
        rw [if_pos rfl, e2', x_b_some, p_more, x_b_some, p_less, x_b_some, v2, v3]
        rfl
  · intro a b h1 h2
    rw [e3 _ _ h2]
    simp (disch := omega) only [x_uo, x_uj, x_us]
  · intro a b h1 h2
    rw [e4 _ _ h1]
    simp (disch := omega) only [x_uo, x_uj, x_us]
  · obtain ⟨v, hv, ev⟩ := b_bd r (l := lv) (m := mv) (by omega) (by omega)
    exact ⟨v, by omega, ev⟩
