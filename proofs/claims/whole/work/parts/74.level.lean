theorem p_level {M : xM} {nP nF nD nJ t p : Nat} (s0 : M 1 0 = nI t) (s2 : M 1 18 = nI nF) (s4 : M 1 20 = nI nJ) (n1 : nP ≤ 12) (n2 : nF ≤ 96) (n4 : nJ ≤ 16) (n5 : t ≤ 3000) (hI : i_St (M 1) nP nF nD nJ t) (hp : p < nP) : ∃ M', (∀ a b, ¬ (a = 8 ∨ a = 9 ∨ a = 10 ∨ (a = 0 ∧ b = 24)) → M' a b = M a b) ∧ (∀ m, m < 24 → M' 8 m = nI (s_R (M 1) nF p m)) ∧ M' 0 24 = nI (l_kk (s_o (M 1) p) nJ) ∧ (∀ i, i < nJ → s_o (M 1) p i = true → M' 10 (l_kk (s_o (M 1) p) i) = nI (s_U (M 1) nJ i)) ∧
    ((l_HB (s_o (M 1) p) (s_U (M 1) nJ) (s_D (M 1) nJ) (s_R (M 1) nF p) t 200000 nJ = false ∧ fX11_findLevel M (nI p) = some (-1, M')) ∨ ∃ L, L ≤ 200000 ∧ l_least (fun L => l_HB (s_o (M 1) p) (s_U (M 1) nJ) (s_D (M 1) nJ) (s_R (M 1) nF p) t L nJ) L ∧ fX11_findLevel M (nI p) = some (nI L, M')) := by
  obtain ⟨iP, iF, iD, iJ, iR⟩ := hI
  obtain ⟨hu, eu⟩ := s_U.eq iJ
  obtain ⟨hd, ed⟩ := s_D.eq iJ n5 iR
  obtain ⟨hr, er⟩ := s_R.eq p iF iR
  have oU : ∀ j, j < nJ → s_o (M 1) p j = true → s_U (M 1) nJ j ≠ 0 := fun j hj ho z => by
    unfold s_o at ho
    rw [decide_eq_true_eq] at ho
    exact ho.2.2 (by rw [eu j hj, z]; rfl)
  obtain ⟨M1, a1, a2, a3⟩ := p_rm (M0 := M) (R := s_R (M 1) nF p) (p := p) (fun M1 h m hm => by
    have e : M1 1 = M 1 := funext fun b => h 1 b (by omega)
    rw [p_room (M := M1) (nI m) (by rw [e]; exact s2) n2 hp n1 (by rw [e]; exact iP), e, er]) (fun (M_2 : xM) => x_l (x_up M_2 0 24 (0 : Int32)) fun M_3 => fX11_findDues_L33 (nI p) x_FU M_3 (0 : Int32)) x_FU 0 M (by omega) (by rw [x_FU_eq]; omega) (fun _ _ _ => rfl) (fun x hx => by omega)
  obtain ⟨M2, b1, b2, b3, b4⟩ := p_du (M0 := x_up M1 0 24 0) (s := M 1) (p := p) (by rw [x_up_ne _ _ _ (by decide)]; exact funext fun b => a1 1 b (by omega)) s4 n4 iJ n5 iR x_FU 0 (x_up M1 0 24 0) (by omega) (by rw [x_FU_eq]; omega) (fun _ _ _ => rfl) (by simp (disch := omega) only [x_uo, x_uj, x_us]; rfl) (fun i hi => by omega)
  have fd : fX11_findDues M (nI p) = some M2 := Eq.trans (by unfold fX11_findDues; rfl) (a3.trans b1)
  have fr : ∀ a b, ¬ (a = 8 ∨ a = 9 ∨ a = 10 ∨ (a = 0 ∧ b = 24)) → M2 a b = M a b := fun a b h => by
    rw [b2 a b (by omega)]
    by_cases z : a = 0
    · subst z
      rw [x_uj (by omega)]
      exact a1 0 b (by omega)
    · rw [x_uo z]
      exact a1 a b (by omega)
  have rm : ∀ m, m < 24 → M2 8 m = nI (s_R (M 1) nF p m) := fun m hm => by
    rw [b2 8 m (by omega), x_uo (by omega)]
    exact a2 m hm
  have hk := l_kk.le (s_o (M 1) p) nJ
  refine ⟨M2, fr, rm, b3, fun i hi ho => (b4 i hi ho).2, ?_⟩
  have hh : ∀ L, L ≤ 200000 → fX11_holds M2 (nI L) = some ((if l_HB (s_o (M 1) p) (s_U (M 1) nJ) (s_D (M 1) nJ) (s_R (M 1) nF p) t L nJ = true then 1 else 0), M2) := fun L hL =>
    p_hold (M := M2) (o := s_o (M 1) p) (U := s_U (M 1) nJ) (D := s_D (M 1) nJ) (R := s_R (M 1) nF p) (L := L) ((fr 1 0 (by omega)).trans s0) b3 n4 rm hr n5 hL hd hu b4 nJ 0 x_FU (by omega) (by rw [x_FU_eq]; omega) rfl
  unfold fX11_findLevel
  rw [fd, x_v_some, b3]
  by_cases z : l_kk (s_o (M 1) p) nJ = 0
  · rw [if_pos (by rw [z]; rfl)]
    exact Or.inr ⟨0, by omega, ⟨l_HB.none (l_kk.zero z), fun b hb => by omega⟩, rfl⟩
  · rw [if_neg (by rw [kn0_eq (by omega)]; exact z)]
    have h2 : fX11_holds M2 200000 = _ := hh 200000 (by omega)
    rw [h2, x_b_some]
    cases eb : l_HB (s_o (M 1) p) (s_U (M 1) nJ) (s_D (M 1) nJ) (s_R (M 1) nF p) t 200000 nJ with
    | false => exact Or.inl ⟨rfl, rfl⟩
    | true =>
      obtain ⟨j, hj, ho⟩ := l_kk.pos z
      obtain ⟨f, ef⟩ : ∃ f, x_FU = f + 1 := ⟨x_FU - 1, by rw [x_FU_eq]⟩
      have hf : 18 ≤ f := by have := x_FU_eq; omega
      have hpw : 2 ^ 18 ≤ 2 ^ f := Nat.pow_le_pow_right (by omega) hf
      obtain ⟨L, l1, l2, l3⟩ := p_fl (M := M2) (F := fun L => l_HB (s_o (M 1) p) (s_U (M 1) nJ) (s_D (M 1) nJ) (s_R (M 1) nF p) t L nJ) hh (fun a b h z => l_HB.mono h z) f 0 200000 (by omega) (by omega) (by omega) eb (l_HB.zero ⟨j, hj, ho, oU j hj ho⟩)
      refine Or.inr ⟨L, l1, l2, ?_⟩
      refine Eq.trans (if_neg (by decide)) ?_
      rw [ef]
      exact l3
theorem p_lay5 {M : xM} {o : Nat → Bool} {U : Nat → Nat} {nJ : Nat} (h24 : M 0 24 = nI (l_kk o nJ)) (hJ : nJ ≤ 16) (hU : ∀ j, U j ≤ 99980001) (h9 : ∀ j, j < nJ → o j = true → M 10 (l_kk o j) = nI (U j)) (kk : xM → Int64 → Option xM) : ∀ (n j fu : Nat), n + j = nJ → l_kk o nJ - l_kk o j < fu → fX11_layPays_L5 kk fu M (lN (l_OW o U j)) (nI (l_kk o j)) = kk M (lN (l_OW o U nJ)) := by
  intro n
  induction n with
  | zero =>
    intro j fu hj hf
    obtain rfl : j = nJ := by omega
    cases fu with
    | zero => omega
    | succ fu => rw [fX11_layPays_L5, h24, if_pos (Int32.le_refl _)]
  | succ n ih =>
    intro j fu hj hf
    have hj' : j < nJ := by omega
    by_cases z : o j = true
    · cases fu with
      | zero => omega
      | succ fu =>
        have b0 := l_kk.lt hj' z
        have b5 := l_kk.le o nJ
        have b6 := hU j
        have f2 := h9 j hj' z
        have ek : l_kk o (j + 1) = l_kk o j + 1 := by rw [l_kk, if_pos z]
        have ih1 := ih (j + 1) fu (by omega) (by omega)
        rw [ek] at ih1
        have e1 : l_OW o U j + U j = l_OW o U (j + 1) := by rw [l_OW, if_pos z]
        rw [fX11_layPays_L5, h24, if_neg (u_lie b0 (by omega)), u_g (by omega) (by omega), u_c (by omega), f2, nI_l (by omega), lN_add, e1, x_lb, x_lb, u_a1]
        exact ih1
    · have e1 : l_OW o U j = l_OW o U (j + 1) := by rw [l_OW, if_neg z]
      have e3 : l_kk o j = l_kk o (j + 1) := by rw [l_kk, if_neg z]
      rw [e1, e3]
      exact ih (j + 1) fu (by omega) (by omega)
theorem p_lay34 {R : Nat → Nat} {L W : Nat} (bR : ∀ m, R m ≤ 99999) (hL : L ≤ 200000) (hW : W < 2 ^ 31) : ∀ (fu m : Nat) (M : xM), m ≤ 24 → 24 - m < fu → (∀ x, x < 24 → M 8 x = nI (R x)) → (∀ x, x < m → M 11 x = nI (l_pay R L W x)) → ∃ M', fX11_layPays_L34 (nI L) fu M (lN (l_LF R L W m)) (nI m) = some M' ∧ (∀ a b, a ≠ 11 → M' a b = M a b) ∧ (∀ x, x < 24 → M' 11 x = nI (l_pay R L W x)) := by
  intro fu
  induction fu with
  | zero => intro m M _ h; omega
  | succ fu ih =>
    intro m M hm hf h8 h11
    rw [fX11_layPays_L34]
    by_cases q : m = 24
    · subst q
      rw [if_pos (show (24 : Int32) ≤ nI 24 from by decide)]
      exact ⟨M, rfl, fun _ _ _ => rfl, h11⟩
    · have hm' : m < 24 := by omega
      have b1 := bR m
      have b2 := l_LF.le (R := R) (L := L) (W := W) m
      have pl : l_pay R L W m < 2 ^ 31 := by unfold l_pay; omega
      have es : lN (l_LF R L W m) - lN (l_pay R L W m) = lN (l_LF R L W (m + 1)) := lN_sub (by unfold l_pay; omega)
      obtain ⟨M', e1, e2, e3⟩ := ih (m + 1) (x_up M 11 m (nI (l_pay R L W m))) (by omega) (by omega) (fun x hx => by simp (disch := omega) only [x_uo, x_uj, x_us]; exact h8 x hx) (fun x hx => by
          by_cases y : x = m
          · subst y; simp (disch := omega) only [x_uo, x_uj, x_us]
          · simp (disch := omega) only [x_uo, x_uj, x_us]; exact h11 x (by omega))
      refine ⟨M', ?_, fun a b h => (e2 a b h).trans (x_uo h), e3⟩
      have el : (0 ≤ lg_cmp (lN (min (R m) L)) (lN (l_LF R L W m))) = (l_LF R L W m ≤ min (R m) L) := propext ((lg_cmp_ge _ _).trans (lN_le (by omega) (by omega)))
      rw [if_neg (show ¬ (24 : Int32) ≤ nI m from u_lie (b := 24) hm' (by decide)), u_g (by omega) (by omega), u_c (by omega), h8 m hm', p_less, x_b_some, u_min' (by omega) (by omega), nI_l (by omega)]
      by_cases z : l_LF R L W m ≤ min (R m) L
      · have ep : l_pay R L W m = l_LF R L W m := by unfold l_pay; omega
        rw [ep] at e1 es pl
        simp (disch := omega) only [x_lb, el, eq_true z, if_true, lN_i, u_g, u_c, x_uo, x_uj, x_us, nI_l, es, u_a1]
        exact e1
      · have ep : l_pay R L W m = min (R m) L := by unfold l_pay; omega
        rw [ep] at e1 es pl
        simp (disch := omega) only [x_lb, el, eq_false z, if_false, u_g, u_c, x_uo, x_uj, x_us, nI_l, es, u_a1]
        exact e1
theorem p_lay {M : xM} {o : Nat → Bool} {U R : Nat → Nat} {nJ L : Nat} (h24 : M 0 24 = nI (l_kk o nJ)) (hJ : nJ ≤ 16) (hU : ∀ j, U j ≤ 99980001) (h9 : ∀ j, j < nJ → o j = true → M 10 (l_kk o j) = nI (U j)) (bR : ∀ m, R m ≤ 99999) (hL : L ≤ 200000) (h8 : ∀ x, x < 24 → M 8 x = nI (R x)) : ∃ M', fX11_layPays M (nI L) = some M' ∧ (∀ a b, a ≠ 11 → M' a b = M a b) ∧ (∀ x, x < 24 → M' 11 x = nI (l_pay R L (l_OW o U nJ) x)) := by
  have hW := l_OW.le (o := o) hU nJ
  obtain ⟨M', e1, e2, e3⟩ := p_lay34 (R := R) (L := L) (W := l_OW o U nJ) bR hL (by omega) x_FU 0 M (by omega) (by rw [x_FU_eq]; omega) h8 (fun x hx => by omega)
  have hk := l_kk.le o nJ
  have f := p_lay5 (M := M) (o := o) (U := U) h24 hJ hU h9 (fun (M_3 : xM) (x2_1 : Int64) => fX11_layPays_L34 (nI L) x_FU M_3 x2_1 (0 : Int32)) nJ 0 x_FU (by omega) (by rw [x_FU_eq]; omega)
  exact ⟨M', Eq.trans (by unfold fX11_layPays; rfl) (f.trans e1), e2, e3⟩
/-- both sides, found -/
theorem q_found {C M : xM} {nP nF nD nJ t p : Nat} (hS : r_St 1 0 C (M 1) nP nF nD nJ t) (hI : i_St (M 1) nP nF nD nJ t) (hp : p < nP) : ∃ C' M', k_C C C' ∧ k_M M M' ∧ ((fX5_isFound C (nI p) = some (0, C') ∧ fX11_findLevel M (nI p) = some (-1, M')) ∨ ∃ (L : Nat) (P : Nat → Nat) (rw_ : Nat) (M2 : xM), L ≤ 99999 ∧ rw_ = rw_ ∧ fX5_isFound C (nI p) = some (1, C') ∧ fX11_findLevel M (nI p) = some (nI L, M') ∧ C' 4 2 = nI L ∧ (∀ x, x < 24 → C' 18 x = nI (P x)) ∧ fX11_layPays M' (nI L) = some M2 ∧ k_M M M2 ∧ (∀ x, x < 24 → M2 11 x = nI (P x)) ∧ (∀ x, P x < 2 ^ 31) ∧ rw_ ≤ 24 ∧ C' 4 3 = nI rw_ ∧ ∃ f : Nat → Nat, f 0 = 0 ∧ f 24 = rw_ ∧ (∀ m, f m ≤ m) ∧ ∀ m, f (m + 1) = if P m = 0 then f m else m + 1) := by
  obtain ⟨⟨⟨c0, c1, c2, c3, c4⟩, ⟨s0, s1, s2, s3, s4⟩, ⟨n1, n2, n3, n4, n5⟩⟩, gP, gF, gD, gJ, gR, gL⟩ := id hS
  obtain ⟨iP, iF, iD, iJ, iR⟩ := id hI
  obtain ⟨hu, eu⟩ := s_U.eq iJ
  obtain ⟨hr, er⟩ := s_R.eq p iF iR
  have hW := l_OW.le (o := s_o (M 1) p) hu nJ
  obtain ⟨M', m1, m2, m3, m4, m5⟩ := p_level s0 s2 s4 n1 n2 n4 n5 hI hp
  have km : k_M M M' := fun a b q => m1 a b (by omega)
  rcases c_found hS hI hp with ⟨c1', C', c2', c3'⟩ | ⟨L, C', l0, l1, l2, l3, l4, l5, l6⟩
  · have kc : k_C C C' := fun a b q => c3' a b (by omega) (by omega) (by omega)
    rcases m5 with ⟨d1, d2⟩ | ⟨L, d0, d1, d2⟩
    · exact ⟨C', M', kc, km, Or.inl ⟨c2', d2⟩⟩
    · have := l_HB.mono (L' := 200000) d0 d1.1
      rw [c1'] at this
      cases this
  · have kc : k_C C C' := fun a b q => l3 a b (by omega) (by omega) (by omega)
    rcases m5 with ⟨d1, d2⟩ | ⟨L', d0, d1, d2⟩
    · have := l_HB.mono (L' := 200000) (by omega) l1.1
      rw [d1] at this
      cases this
    · obtain rfl := l1.uniq d1
      obtain ⟨M2, e1, e2, e3⟩ := p_lay (M := M') (o := s_o (M 1) p) (U := s_U (M 1) nJ) (R := s_R (M 1) nF p) (L := L) m3 n4 hu m4 hr d0 m2
      refine ⟨C', M', kc, km, Or.inr ⟨L, l_pay (s_R (M 1) nF p) L (l_OW (s_o (M 1) p) (s_U (M 1) nJ) nJ), l_rw (s_R (M 1) nF p) L (l_OW (s_o (M 1) p) (s_U (M 1) nJ) nJ) 24, M2, l0, rfl, l2, d2, l4, l5, e1, fun a b q => (e2 a b (by omega)).trans (km a b q), e3, fun x => ?_, l_rw.le 24, l6, l_rw (s_R (M 1) nF p) L (l_OW (s_o (M 1) p) (s_U (M 1) nJ) nJ), rfl, rfl, fun m => l_rw.le m, fun m => rfl⟩⟩
      have := l_LF.le (R := s_R (M 1) nF p) (L := L) (W := l_OW (s_o (M 1) p) (s_U (M 1) nJ) nJ) x
      unfold l_pay
      omega
theorem q_level {C M : xM} (h : Rel C M) (a : Int32) : q_Stp (fX10_level C a) (fX11_level M a) := by
  obtain ⟨⟨nP, nF, nD, nJ, t, hS, hL, iP, iF, iD, iJ, iR⟩, hR⟩ := id h
  obtain ⟨⟨⟨c0, c1, c2, c3, c4⟩, ⟨s0, s1, s2, s3, s4⟩, ⟨n1, n2, n3, n4, n5⟩⟩, gP, gF, gD, gJ, gR, gL⟩ := id hS
  unfold fX10_level fX11_level
  rw [c_hasPerson, p_isPerson, x_b_some, x_b_some]
  refine q_ck h (by rw [c1, s1]) (fun hp => ?_)
  rw [c1, u_has (by omega)] at hp
  obtain ⟨p, hp, rfl⟩ := hp
  obtain ⟨C', M', kc, km, hh⟩ := q_found hS ⟨iP, iF, iD, iJ, iR⟩ hp
  rcases hh with ⟨e1, e2⟩ | ⟨L, P, rw_, M2, l0, -, e1, e2, e3, -⟩
  · rw [e1, e2, x_b_some, x_b_some, if_pos rfl, if_pos rfl]
    exact q_mk rfl (h.keep kc km)
  · rw [e1, e2, x_b_some, x_b_some, if_neg (by decide : ¬ (1 : Int32) = 0), if_neg (show ¬ nI L = (-1 : Int32) by rw [l_neg (by omega)]; exact id), e3]
    exact q_mk rfl (h.keep kc km)
theorem q_month {C M : xM} (h : Rel C M) (a b : Int32) : q_Stp (fX10_month C a b) (fX11_month M a b) := by
  obtain ⟨⟨nP, nF, nD, nJ, t, hS, hL, iP, iF, iD, iJ, iR⟩, hR⟩ := id h
  obtain ⟨⟨⟨c0, c1, c2, c3, c4⟩, ⟨s0, s1, s2, s3, s4⟩, ⟨n1, n2, n3, n4, n5⟩⟩, gP, gF, gD, gJ, gR, gL⟩ := id hS
  unfold fX10_month fX11_month
  rw [c_hasPerson, p_isPerson, x_b_some, x_b_some]
  refine q_ck h (by rw [c1, s1]) (fun hp => ?_)
  rw [c1, u_has (by omega)] at hp
  obtain ⟨p, hp, rfl⟩ := hp
  rw [c_in, p_in, x_b_some, x_b_some]
  refine q_ck h Iff.rfl (fun hb => ?_)
  obtain ⟨m, hm, rfl⟩ := u_of (n := 23) hb.1 hb.2 (by decide)
  obtain ⟨C', M', kc, km, hh⟩ := q_found hS ⟨iP, iF, iD, iJ, iR⟩ hp
  rcases hh with ⟨e1, e2⟩ | ⟨L, P, rw_, M2, l0, -, e1, e2, e3, e4, e5, e6, e7, -⟩
  · rw [e1, e2, x_b_some, x_b_some, if_pos rfl, if_pos rfl]
    exact q_mk rfl (h.keep kc km)
  · rw [e1, e2, x_b_some, x_b_some, if_neg (by decide : ¬ (1 : Int32) = 0), if_neg (show ¬ nI L = (-1 : Int32) by rw [l_neg (by omega)]; exact id), e5, x_v_some, u_g (by omega) (by omega), u_g (by omega) (by omega), u_c (by omega)]
    exact q_mk (by rw [e4 m (by omega), e7 m (by omega)]) (h.keep kc e6)
theorem Rel.wait {C C' M M' : xM} (h : Rel C M) (hc : ∀ a b, ¬ (a = 0 ∧ b = 6) → C' a b = C a b) (hm : ∀ a b, ¬ (a = 0 ∧ b = 27) → M' a b = M a b) (w : r_Wt C' M') : Rel C' M' := by
  obtain ⟨⟨nP, nF, nD, nJ, t, h1, h2, h3⟩, h4, ⟨n, t1, t2, t3, t4⟩, -, s0, s1⟩ := h
  have e1 : M' 1 = M 1 := funext fun j => hm 1 j (by omega)
  refine ⟨⟨nP, nF, nD, nJ, t, ?_⟩, h4.keep (hc _ _ (by omega)) (fun j => hc _ _ (by omega)) (fun a j q => hc _ _ (by omega)) (hm _ _ (by omega)) (fun j => hm _ _ (by omega)), ⟨n, t1, ?_, ?_, fun i hi => ?_⟩, w, s0.keep (fun j => hc _ _ (by omega)) (fun j => hc _ _ (by omega)) (fun j => hc _ _ (by omega)) (fun j => hm _ _ (by omega)) (fun j => hm _ _ (by omega)), s1.keep (fun j => hc _ _ (by omega)) (fun j => hc _ _ (by omega)) (fun j => hc _ _ (by omega)) (fun j => hm _ _ (by omega)) (fun j => hm _ _ (by omega))⟩
  · rw [e1]
    exact ⟨h1.keep (fun j => hc _ _ (by omega)) (fun a j q => hc _ _ (by omega)), h2.keep (fun a j q => hc _ _ (by omega)), h3⟩
  · rw [hm _ _ (by omega)]; exact t2
  · rw [hc _ _ (by omega)]; exact t3
  · rw [hc _ _ (by omega), hm _ _ (by omega)]; exact t4 i hi
theorem q_ckL {C M : xM} {n r : Nat} {P : Nat → Nat} (hn : n ≤ 30) (hr : r ≤ 24) (h3 : C 4 3 = nI r) (h5 : ∀ i, i < n → C 5 i = M 12 i) (hc : ∀ x, x < 24 → C 18 x = nI (P x)) (hm : ∀ x, x < 24 → M 11 x = nI (P x)) : ∀ (fu i : Nat), i ≤ n → n - i < fu → ∃ v, fX5_firstWrong_L12 (nI n) (nI (max n r)) (fun (M_4 : xM) (x4_2 : Int32) => some (((1 : Int32) + x4_2), M_4)) fu C (nI i) = some (v, C) ∧ fX11_check_L83 (nI n) (nI r) (fun (M_17 : xM) => if nI r ≤ nI n then (some ((0 : Int32), M_17)) else (some (((1 : Int32) + nI n), M_17))) (fun (M_21 : xM) (x5_19 : Int32) => some (((1 : Int32) + x5_19), M_21)) fu M (nI i) = some (v, M) := by
  intro fu
  induction fu with
  | zero => intro i _ h; omega
  | succ fu ih =>
    intro i hi hf
    rw [fX5_firstWrong_L12, fX11_check_L83, h3]
    simp only [l_len (show max n r < 2 ^ 31 by omega) (show i < 2 ^ 31 by omega), l_len (show n < 2 ^ 31 by omega) (show i < 2 ^ 31 by omega), l_len (show r < 2 ^ 31 by omega) (show i < 2 ^ 31 by omega)]
    by_cases q : i = n
    · subst q
      rw [if_pos (Nat.le_refl i), if_pos (Nat.le_refl i)]
      by_cases z : r ≤ i
      · rw [if_pos (show max i r ≤ i by omega), if_pos (show nI r ≤ nI i from nI_le z (by omega))]
        exact ⟨0, rfl, rfl⟩
      · rw [if_neg (show ¬ max i r ≤ i by omega), if_neg (show ¬ nI r ≤ nI i from u_lie (by omega) (by omega))]
        exact ⟨1 + nI i, rfl, rfl⟩
    · rw [if_neg (show ¬ max n r ≤ i by omega), if_neg (show ¬ n ≤ i by omega), if_neg (show ¬ n ≤ i by omega)]
      by_cases z : r ≤ i
      · rw [if_pos z, if_pos z]
        exact ⟨1 + nI i, rfl, rfl⟩
      · rw [if_neg z, if_neg z, u_g (by omega) (by omega), u_g (by omega) (by omega), u_g (by omega) (by omega), u_g (by omega) (by omega), u_c (by omega), h5 i (by omega), hc i (by omega), hm i (by omega)]
        by_cases y : M 12 i = nI (P i)
        · rw [if_pos y, if_pos y, x_lb, x_lb, u_a1]
          exact ih (i + 1) (by omega) (by omega)
        · rw [if_neg y, if_neg y]
          exact ⟨1 + nI i, rfl, rfl⟩
theorem p_ckr {M : xM} {P f : Nat → Nat} (hm : ∀ x, x < 24 → M 11 x = nI (P x)) (hP : ∀ x, P x < 2 ^ 31) (hf : ∀ m, f (m + 1) = if P m = 0 then f m else m + 1) (k : xM → Int32 → Option (Int32 × xM)) : ∀ (fu m : Nat), m ≤ 24 → 24 - m < fu → fX11_check_L46 k fu M (nI (f m)) (nI m) = k M (nI (f 24)) := by
  intro fu
  induction fu with
  | zero => intro m _ h; omega
  | succ fu ih =>
    intro m h1 h2
    rw [fX11_check_L46]
    by_cases q : m = 24
    · subst q
      rw [if_pos (show (24 : Int32) ≤ nI 24 from by decide)]
    · have ih1 := ih (m + 1) (by omega) (by omega)
      rw [hf] at ih1
      rw [if_neg (show ¬ (24 : Int32) ≤ nI m from u_lie (b := 24) (by omega) (by decide)), u_g (by omega) (by omega), u_c (by omega), hm m (by omega)]
      simp only [kn0_le (hP m), x_lb, u_a1]
      by_cases z : P m = 0
      · rw [if_pos z] at ih1
        rw [if_pos (by omega)]
        exact ih1
      · rw [if_neg z] at ih1
        rw [if_neg (by omega)]
        exact ih1
theorem q_check {C M : xM} (h : Rel C M) (a : Int32) : q_Stp (fX10_check C a) (fX11_check M a) := by
  obtain ⟨n, hn, w2, w3, w4⟩ := h.2.2.2.1
  have hw := h.wait (C' := x_up C 0 6 0) (M' := x_up M 0 27 0) (fun x y z => by
    by_cases e : x = 0
    · subst e; simp (disch := omega) only [x_uo, x_uj, x_us]
    · simp (disch := omega) only [x_uo, x_uj, x_us]) (fun x y z => by
    by_cases e : x = 0
    · subst e; simp (disch := omega) only [x_uo, x_uj, x_us]
    · simp (disch := omega) only [x_uo, x_uj, x_us]) ⟨0, by omega, by simp (disch := omega) only [x_uo, x_uj, x_us]; rfl, by simp (disch := omega) only [x_uo, x_uj, x_us]; rfl, fun i hi => by omega⟩
  have w5 : ∀ i, i < n → x_up C 0 6 0 5 i = x_up M 0 27 0 12 i := fun i hi => by simp (disch := omega) only [x_uo, x_uj, x_us]; exact w4 i hi
  unfold fX10_check fX11_check
  rw [w2, w3, x_lb, x_lb, x_lb, x_lb]
  generalize x_up C 0 6 0 = C0 at hw w5 ⊢
  generalize x_up M 0 27 0 = M0 at hw w5 ⊢
  obtain ⟨⟨nP, nF, nD, nJ, t, hS, hL, iP, iF, iD, iJ, iR⟩, hR⟩ := id hw
  obtain ⟨⟨⟨c0, c1, c2, c3, c4⟩, ⟨s0, s1, s2, s3, s4⟩, ⟨n1, n2, n3, n4, n5⟩⟩, gP, gF, gD, gJ, gR, gL⟩ := id hS
  rw [c_hasPerson, p_isPerson, x_b_some, x_b_some]
  refine q_ck hw (by rw [c1, s1]) (fun hp => ?_)
  rw [c1, u_has (by omega)] at hp
  obtain ⟨p, hp, rfl⟩ := hp
  obtain ⟨C', M', kc, km, hh⟩ := q_found hS ⟨iP, iF, iD, iJ, iR⟩ hp
  rcases hh with ⟨e1, e2⟩ | ⟨L, P, r, M2, l0, -, e1, e2, e3, e4, e5, e6, e7, e8, e9, e10, f, f0, f24, f1, f2⟩
  · rw [e1, e2, x_b_some, x_b_some, if_pos rfl, if_pos rfl]
    exact q_mk rfl (hw.keep kc km)
  · rw [e1, e2, x_b_some, x_b_some, if_neg (by decide : ¬ (1 : Int32) = 0), if_neg (show ¬ nI L = (-1 : Int32) by rw [l_neg (by omega)]; exact id), e5, x_v_some]
    obtain ⟨v, v1, v2⟩ := q_ckL (C := C') (M := M2) (n := n) (r := r) (P := P) hn e9 e10 (fun i hi => by rw [kc 5 i (by omega), e6 12 i (by omega)]; exact w5 i hi) e4 e7 x_FU 0 (by omega) (by rw [x_FU_eq]; omega)
    have g := p_ckr (M := M2) (P := P) (f := f) e7 e8 f2 (fun (M_15 : xM) (x4_13 : Int32) => x_l (fun (M_17 : xM) => if x4_13 ≤ nI n then (some ((0 : Int32), M_17)) else (some (((1 : Int32) + nI n), M_17))) fun k124_16 => x_l (fun (M_21 : xM) (x5_19 : Int32) => some (((1 : Int32) + x5_19), M_21)) fun k113_20 => fX11_check_L83 (nI n) x4_13 k124_16 k113_20 x_FU M_15 (0 : Int32)) x_FU 0 (by omega) (by rw [x_FU_eq]; omega)
    rw [f0, f24] at g
    refine ⟨v, C', M2, ?_, Eq.trans ?_ (g.trans v2), hw.keep kc e6⟩
    · unfold fX5_firstWrong
      rw [e10, x_lb, x_lb]
      have em : (if nI n < nI r then nI r else nI n) = nI (max n r) := by
        simp only [l_ltn (show n < 2 ^ 31 by omega) (show r < 2 ^ 31 by omega)]
        by_cases z : n < r
        · rw [if_pos z, Nat.max_eq_right (by omega)]
        · rw [if_neg z, Nat.max_eq_left (by omega)]
      rw [em]
      have v1' := v1
      rw [show nI 0 = (0 : Int32) from rfl] at v1'
      rw [v1', x_b_some]
    · rfl
