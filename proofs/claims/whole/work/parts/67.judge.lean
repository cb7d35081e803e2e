theorem RelN.setP {C M : xM} {nP nF nD nJ t p c : Nat} (h : RelN C M nP nF nD nJ t) (hp : p < nP) (hc : c ≤ 9999) : RelN (x_up C (31 + p) 2 (nI c)) (x_up M 1 (30 + 3 * p + 2) (nI c)) nP nF nD nJ t := by
  obtain ⟨⟨hS, hL, iP, iF, iD, iJ, iR⟩, hR⟩ := h
  obtain ⟨⟨⟨c0, c1, c2, c3, c4⟩, ⟨s0, s1, s2, s3, s4⟩, ⟨n1, n2, n3, n4, n5⟩⟩, gP, gF, gD, gJ, gR, gL⟩ := id hS
  refine ⟨⟨⟨⟨?_, ?_, n1, n2, n3, n4, n5⟩, ?_, gF.keep (fun i j hi hj => by simp (disch := omega) only [x_uo, x_uj, x_us]) (fun i j hi hj => by simp (disch := omega) only [x_uo, x_uj, x_us]), gD.keep (fun i j hi hj => by simp (disch := omega) only [x_uo, x_uj, x_us]) (fun i j hi hj => by simp (disch := omega) only [x_uo, x_uj, x_us]), gJ.keep (fun i j hi hj => by simp (disch := omega) only [x_uo, x_uj, x_us]) (fun i j hi hj => by simp (disch := omega) only [x_uo, x_uj, x_us]), gR.keep (fun j hj => by simp (disch := omega) only [x_uo, x_uj, x_us]) (fun j hj => by simp (disch := omega) only [x_uo, x_uj, x_us]), gL.keep (fun j hj => by simp (disch := omega) only [x_uo, x_uj, x_us]) (fun j hj => by simp (disch := omega) only [x_uo, x_uj, x_us])⟩, (hL.keepS (fun a j q => by simp (disch := omega) only [x_uo, x_uj, x_us]) (by simp (disch := omega) only [x_uo, x_uj, x_us]) (fun j => by simp (disch := omega) only [x_uo, x_uj, x_us])), ⟨?_, iF.keep (fun i j hi hj => by simp (disch := omega) only [x_uo, x_uj, x_us]), iD.keep (Nat.le_refl _) (Nat.le_refl _) (fun i j hi hj => by simp (disch := omega) only [x_uo, x_uj, x_us]), iJ.keep (Nat.le_refl _) (Nat.le_refl _) (fun i j hi hj => by simp (disch := omega) only [x_uo, x_uj, x_us]), iR.keep (fun j hj => by simp (disch := omega) only [x_uo, x_uj, x_us]) (fun j hj => by simp (disch := omega) only [x_uo, x_uj, x_us])⟩⟩, (r_Rest.keep hR (fun a b q => by simp (disch := omega) only [x_uo, x_uj, x_us]) (fun a b q => by simp (disch := omega) only [x_uo, x_uj, x_us]))⟩
  · simp (disch := omega) only [x_uo, x_uj, x_us, c0, c1, c2, c3, c4, and_self]
  · simp (disch := omega) only [x_uo, x_uj, x_us, s0, s1, s2, s3, s4, and_self]
  · intro i hi z hz
    have := gP i hi z hz
    by_cases q : i = p
    · subst q
      by_cases q2 : z = 2
      · subst q2
        simp (disch := omega) only [x_uo, x_uj, x_us, Nat.add_zero]
      · simp (disch := omega) only [x_uo, x_uj, x_us, Nat.add_zero]
        exact this
    · simp (disch := omega) only [x_uo, x_uj, x_us]
      exact this
  · intro i hi
    obtain ⟨a1, a2, a3⟩ := iP i hi
    refine ⟨by simp (disch := omega) only [x_uo, x_uj, x_us]; exact a1, ?_, ?_⟩
    · rcases a2 with a2 | ⟨q, b1, b2, b3, b4⟩
      · exact Or.inl (by simp (disch := omega) only [x_uo, x_uj, x_us]; exact a2)
      · exact Or.inr ⟨q, b1, b2, by simp (disch := omega) only [x_uo, x_uj, x_us]; exact b3, by simp (disch := omega) only [x_uo, x_uj, x_us]; exact b4⟩
    · by_cases q : i = p
      · subst q
        exact ⟨c, hc, by simp (disch := omega) only [x_uo, x_uj, x_us]⟩
      · simp (disch := omega) only [x_uo, x_uj, x_us]
        exact a3
/-- a judgment's place that isn't counted yet -/
theorem RelN.free {C C' M M' : xM} {nP nF nD nJ t : Nat} (h : RelN C M nP nF nD nJ t) (hJ : nJ < 16) (hc : ∀ a b, a ≠ 169 + nJ → C' a b = C a b) (hm : ∀ a b, ¬ (a = 1 ∧ 792 + 10 * nJ ≤ b ∧ b < 802 + 10 * nJ) → M' a b = M a b) : RelN C' M' nP nF nD nJ t := by
  obtain ⟨⟨hS, hL, iP, iF, iD, iJ, iR⟩, hR⟩ := h
  obtain ⟨⟨⟨c0, c1, c2, c3, c4⟩, ⟨s0, s1, s2, s3, s4⟩, ⟨n1, n2, n3, n4, n5⟩⟩, gP, gF, gD, gJ, gR, gL⟩ := id hS
  refine ⟨⟨⟨⟨?_, ?_, n1, n2, n3, n4, n5⟩, gP.keep (fun i j hi hj => hc _ _ (by omega)) (fun i j hi hj => hm _ _ (by omega)), gF.keep (fun i j hi hj => hc _ _ (by omega)) (fun i j hi hj => hm _ _ (by omega)), gD.keep (fun i j hi hj => hc _ _ (by omega)) (fun i j hi hj => hm _ _ (by omega)), gJ.keep (fun i j hi hj => hc _ _ (by omega)) (fun i j hi hj => hm _ _ (by omega)), gR.keep (fun j hj => hc _ _ (by omega)) (fun j hj => hm _ _ (by omega)), gL.keep (fun j hj => hc _ _ (by omega)) (fun j hj => hm _ _ (by omega))⟩, hL.keepS (fun a j q => hc _ _ (by omega)) (hm _ _ (by omega)) (fun j => hm _ _ (by omega)), ⟨iP.keep (fun i j hi hj => hm _ _ (by omega)), iF.keep (fun i j hi hj => hm _ _ (by omega)), iD.keep (Nat.le_refl _) (Nat.le_refl _) (fun i j hi hj => hm _ _ (by omega)), iJ.keep (Nat.le_refl _) (Nat.le_refl _) (fun i j hi hj => hm _ _ (by omega)), iR.keep (fun j hj => hm _ _ (by omega)) (fun j hj => hm _ _ (by omega))⟩⟩, r_Rest.keep hR (fun a b q => hc _ _ (by omega)) (fun a b q => hm _ _ (by omega))⟩
  · rw [hc _ _ (by omega), hc _ _ (by omega), hc _ _ (by omega), hc _ _ (by omega), hc _ _ (by omega)]
    exact ⟨c0, c1, c2, c3, c4⟩
  · rw [hm _ _ (by omega), hm _ _ (by omega), hm _ _ (by omega), hm _ _ (by omega), hm _ _ (by omega)]
    exact ⟨s0, s1, s2, s3, s4⟩
def j_new (p t da su : Nat) : Nat → Int32 := fun k => if k = 0 then nI p else if k = 1 then nI t else if k = 2 then nI da else if k = 3 then nI su else if k = 6 then nI t else 0
theorem RelN.addJ {C M : xM} {nP nF nD nJ t p da su : Nat} (h : RelN C M nP nF nD nJ t) (hJ : nJ < 16) (hp : p < nP) (hda : da ≤ 9999) (hsu : su ≤ 9999) (hc : ∀ k, k < 10 → C (169 + nJ) k = j_new p t da su k) (hm : ∀ k, k < 9 → M 1 (792 + 10 * nJ + k) = j_new p t da su k) : RelN (x_up C 1 4 (nI (nJ + 1))) (x_up M 1 20 (nI (nJ + 1))) nP nF nD (nJ + 1) t := by
  obtain ⟨⟨hS, hL, iP, iF, iD, iJ, iR⟩, hR⟩ := h
  obtain ⟨⟨⟨c0, c1, c2, c3, c4⟩, ⟨s0, s1, s2, s3, s4⟩, ⟨n1, n2, n3, n4, n5⟩⟩, gP, gF, gD, gJ, gR, gL⟩ := id hS
  refine ⟨⟨⟨⟨?_, ?_, n1, n2, n3, by omega, n5⟩, gP.keep (fun i j hi hj => by simp (disch := omega) only [x_uo, x_uj, x_us]) (fun i j hi hj => by simp (disch := omega) only [x_uo, x_uj, x_us]), gF.keep (fun i j hi hj => by simp (disch := omega) only [x_uo, x_uj, x_us]) (fun i j hi hj => by simp (disch := omega) only [x_uo, x_uj, x_us]), gD.keep (fun i j hi hj => by simp (disch := omega) only [x_uo, x_uj, x_us]) (fun i j hi hj => by simp (disch := omega) only [x_uo, x_uj, x_us]), ?_, gR.keep (fun j hj => by simp (disch := omega) only [x_uo, x_uj, x_us]) (fun j hj => by simp (disch := omega) only [x_uo, x_uj, x_us]), gL.keep (fun j hj => by simp (disch := omega) only [x_uo, x_uj, x_us]) (fun j hj => by simp (disch := omega) only [x_uo, x_uj, x_us])⟩, (hL.keepS (fun a j q => by simp (disch := omega) only [x_uo, x_uj, x_us]) (by simp (disch := omega) only [x_uo, x_uj, x_us]) (fun j => by simp (disch := omega) only [x_uo, x_uj, x_us])), ⟨iP.keep (fun i j hi hj => by simp (disch := omega) only [x_uo, x_uj, x_us]), iF.keep (fun i j hi hj => by simp (disch := omega) only [x_uo, x_uj, x_us]), iD.keep (Nat.le_refl _) (by omega) (fun i j hi hj => by simp (disch := omega) only [x_uo, x_uj, x_us]), ?_, iR.keep (fun j hj => by simp (disch := omega) only [x_uo, x_uj, x_us]) (fun j hj => by simp (disch := omega) only [x_uo, x_uj, x_us])⟩⟩, (r_Rest.keep hR (fun a b q => by simp (disch := omega) only [x_uo, x_uj, x_us]) (fun a b q => by simp (disch := omega) only [x_uo, x_uj, x_us]))⟩
  · simp (disch := omega) only [x_uo, x_uj, x_us, c0, c1, c2, c3, and_self]
  · simp (disch := omega) only [x_uo, x_uj, x_us, s0, s1, s2, s3, and_self]
  · have g2 : r_J 0 (x_up C 1 4 (nI (nJ + 1))) (x_up M 1 20 (nI (nJ + 1)) 1) nJ := gJ.keep (fun i j hi hj => by simp (disch := omega) only [x_uo, x_uj, x_us]) (fun i j hi hj => by simp (disch := omega) only [x_uo, x_uj, x_us])
    intro i hi
    by_cases q : i = nJ
    · subst q
      have m8 : M 1 (792 + 10 * i + 8) = 0 := hm 8 (by omega)
      refine ⟨fun z hz => ?_, ?_, ?_⟩
      · simp (disch := omega) only [x_uo, x_uj, x_us, Nat.add_zero]
        rw [hc z (by omega), hm z (by omega)]
      · simp (disch := omega) only [x_uo, x_uj, x_us, Nat.add_zero, m8]
        exact hc 8 (by omega)
      · simp (disch := omega) only [x_uo, x_uj, x_us, Nat.add_zero, m8]
        exact hc 9 (by omega)
    · exact g2 i (by omega)
  · have g2 : i_J (x_up M 1 20 (nI (nJ + 1)) 1) nP nJ t := iJ.keep (Nat.le_refl _) (Nat.le_refl _) (fun i j hi hj => by simp (disch := omega) only [x_uo, x_uj, x_us])
    have rd : ∀ k, k < 9 → x_up M 1 20 (nI (nJ + 1)) 1 (792 + 10 * nJ + k) = j_new p t da su k := fun k hk => by
      simp (disch := omega) only [x_uo, x_uj, x_us]
      exact hm k hk
    refine ⟨fun i hi => ?_, fun i j hi hj => ?_⟩
    · by_cases q : i = nJ
      · subst q
        exact ⟨⟨p, hp, rd 0 (by omega)⟩, ⟨t, by omega, rd 1 (by omega)⟩, ⟨da, hda, rd 2 (by omega)⟩, ⟨su, hsu, rd 3 (by omega)⟩, ⟨0, by omega, rd 4 (by omega)⟩, ⟨0, by omega, rd 5 (by omega)⟩, ⟨0, by omega, rd 7 (by omega)⟩, ⟨0, by omega, rd 8 (by omega)⟩⟩
      · exact g2.1 i (by omega)
    · by_cases q : j = nJ
      · subst q
        obtain ⟨-, ⟨d, hd, ed⟩, -⟩ := g2.1 i (by omega)
        rw [rd 1 (by omega), ed]
        exact nI_le hd (by omega)
      · exact g2.2 i j hi (by omega)
theorem RelN.setD {C M : xM} {nP nF nD nJ t d j : Nat} (h : RelN C M nP nF nD nJ t) (hd : d < nD) (hj : j < nJ) : RelN (x_up C (139 + d) 4 (nI j)) (x_up M 1 (642 + 5 * d + 4) (nI j)) nP nF nD nJ t := by
  obtain ⟨⟨hS, hL, iP, iF, iD, iJ, iR⟩, hR⟩ := h
  obtain ⟨⟨⟨c0, c1, c2, c3, c4⟩, ⟨s0, s1, s2, s3, s4⟩, ⟨n1, n2, n3, n4, n5⟩⟩, gP, gF, gD, gJ, gR, gL⟩ := id hS
  refine ⟨⟨⟨⟨?_, ?_, n1, n2, n3, n4, n5⟩, gP.keep (fun i j hi hj => by simp (disch := omega) only [x_uo, x_uj, x_us]) (fun i j hi hj => by simp (disch := omega) only [x_uo, x_uj, x_us]), gF.keep (fun i j hi hj => by simp (disch := omega) only [x_uo, x_uj, x_us]) (fun i j hi hj => by simp (disch := omega) only [x_uo, x_uj, x_us]), ?_, gJ.keep (fun i j hi hj => by simp (disch := omega) only [x_uo, x_uj, x_us]) (fun i j hi hj => by simp (disch := omega) only [x_uo, x_uj, x_us]), gR.keep (fun j hj => by simp (disch := omega) only [x_uo, x_uj, x_us]) (fun j hj => by simp (disch := omega) only [x_uo, x_uj, x_us]), gL.keep (fun j hj => by simp (disch := omega) only [x_uo, x_uj, x_us]) (fun j hj => by simp (disch := omega) only [x_uo, x_uj, x_us])⟩, (hL.keepS (fun a j q => by simp (disch := omega) only [x_uo, x_uj, x_us]) (by simp (disch := omega) only [x_uo, x_uj, x_us]) (fun j => by simp (disch := omega) only [x_uo, x_uj, x_us])), ⟨iP.keep (fun i j hi hj => by simp (disch := omega) only [x_uo, x_uj, x_us]), iF.keep (fun i j hi hj => by simp (disch := omega) only [x_uo, x_uj, x_us]), ?_, iJ.keep (Nat.le_refl _) (Nat.le_refl _) (fun i j hi hj => by simp (disch := omega) only [x_uo, x_uj, x_us]), iR.keep (fun j hj => by simp (disch := omega) only [x_uo, x_uj, x_us]) (fun j hj => by simp (disch := omega) only [x_uo, x_uj, x_us])⟩⟩, (r_Rest.keep hR (fun a b q => by simp (disch := omega) only [x_uo, x_uj, x_us]) (fun a b q => by simp (disch := omega) only [x_uo, x_uj, x_us]))⟩
  · simp (disch := omega) only [x_uo, x_uj, x_us, c0, c1, c2, c3, c4, and_self]
  · simp (disch := omega) only [x_uo, x_uj, x_us, s0, s1, s2, s3, s4, and_self]
  · intro i hi z hz
    have := gD i hi z hz
    by_cases q : i = d
    · subst q
      by_cases q2 : z = 4
      · subst q2
        simp (disch := omega) only [x_uo, x_uj, x_us, Nat.add_zero]
      · simp (disch := omega) only [x_uo, x_uj, x_us, Nat.add_zero]
        exact this
    · simp (disch := omega) only [x_uo, x_uj, x_us]
      exact this
  · intro i hi
    obtain ⟨a1, a2, a3⟩ := iD i hi
    refine ⟨by simp (disch := omega) only [x_uo, x_uj, x_us]; exact a1, by simp (disch := omega) only [x_uo, x_uj, x_us]; exact a2, ?_⟩
    by_cases q : i = d
    · subst q
      exact Or.inr ⟨j, hj, by simp (disch := omega) only [x_uo, x_uj, x_us]⟩
    · simp (disch := omega) only [x_uo, x_uj, x_us]
      exact a3
theorem x_up_comm (M : xM) {k k' : Nat} (j j' : Nat) (v v' : Int32) (h : k ≠ k') : x_up (x_up M k j v) k' j' v' = x_up (x_up M k' j' v') k j v := by
  funext a b
  simp only [x_up_at]
  by_cases h1 : a = k
  · subst h1
    simp [h]
  · simp [h1]
theorem x_up_commJ (M : xM) {k j j' : Nat} (v v' : Int32) (h : j ≠ j') : x_up (x_up M k j v) k j' v' = x_up (x_up M k j' v') k j v := by
  funext a b
  simp only [x_up_at]
  by_cases h1 : a = k
  · subst h1
    by_cases h2 : b = j
    · subst h2
      simp [h]
    · simp [h2]
  · simp [h1]
theorem q_tk {nP nF nD nJ t p : Nat} (k : xM → Option (Int32 × xM)) : ∀ (fu i : Nat) (C M : xM), RelN (x_up C 1 4 (nI (nJ + 1))) (x_up M 1 20 (nI (nJ + 1))) nP nF nD (nJ + 1) t → i ≤ nD → nD - i < fu → ∃ C' M', fX8_takeOpenDeeds_L2 (nI p) (nI nJ) fu C (nI i) = some C' ∧ fX11_judge_L218 (nI p) (nI nJ) k fu M (nI i) = k M' ∧ C' 1 4 = C 1 4 ∧ M' 1 20 = M 1 20 ∧ RelN (x_up C' 1 4 (nI (nJ + 1))) (x_up M' 1 20 (nI (nJ + 1))) nP nF nD (nJ + 1) t := by
  intro fu
  induction fu with
  | zero => intro i C M _ _ h; omega
  | succ fu ih =>
    intro i C M hN hi hf
    obtain ⟨⟨hS, -⟩, -⟩ := id hN
    obtain ⟨⟨⟨c0, c1, c2, c3, c4⟩, ⟨s0, s1, s2, s3, s4⟩, ⟨n1, n2, n3, n4, n5⟩⟩, gP, gF, gD, gJ, gR, gL⟩ := id hS
    have k3 : C 1 3 = nI nD := by rw [← c3]; simp (disch := omega) only [x_uo, x_uj, x_us]
    have m19 : M 1 19 = nI nD := by rw [← s3]; simp (disch := omega) only [x_uo, x_uj, x_us]
    rw [fX8_takeOpenDeeds_L2, fX11_judge_L218, k3, m19]
    by_cases q : i = nD
    · subst q
      rw [if_pos (Int32.le_refl _), if_pos (Int32.le_refl _)]
      exact ⟨C, M, rfl, rfl, rfl, rfl, hN⟩
    · have d1 : C (139 + i) 1 = M 1 (642 + 5 * i + 1) := by
        have := gD i (by omega) 1 (by decide)
        simp (disch := omega) only [x_uo, x_uj, x_us, Nat.add_zero] at this
        exact this
      have d4 : C (139 + i) 4 = M 1 (642 + 5 * i + 4) := by
        have := gD i (by omega) 4 (by decide)
        simp (disch := omega) only [x_uo, x_uj, x_us, Nat.add_zero] at this
        exact this
      rw [if_neg (u_lie (by omega) (by omega)), if_neg (u_lie (by omega) (by omega)), u_g (by omega) (by omega), u_c (by omega), c_openOf, x_b_some, d1, d4, u_5]
      simp (disch := omega) only [x_lb, u_a1, u_a4, u_g, u_c]
      by_cases o : M 1 (642 + 5 * i + 1) = nI p ∧ M 1 (642 + 5 * i + 4) = -1
      · have hN2 := hN.setD (d := i) (j := nJ) (by omega) (by omega)
        rw [← x_up_comm C _ _ _ _ (by omega : 139 + i ≠ 1), ← x_up_commJ M _ _ (by omega : 642 + 5 * i + 4 ≠ 20)] at hN2
        obtain ⟨C', M', e1, e2, e3, e4, e5⟩ := ih (i + 1) _ _ hN2 (by omega) (by omega)
        refine ⟨C', M', ?_, ?_, ?_, ?_, e5⟩
        · rw [if_pos o, if_neg (by decide : ¬ (1 : Int32) = 0)]
          exact e1
        · rw [if_pos o.1, if_pos o.2]
          exact e2
        · rw [e3]; simp (disch := omega) only [x_uo, x_uj, x_us]
        · rw [e4]; simp (disch := omega) only [x_uo, x_uj, x_us]
      · obtain ⟨C', M', e1, e2, e3, e4, e5⟩ := ih (i + 1) C M hN (by omega) (by omega)
        refine ⟨C', M', ?_, ?_, e3, e4, e5⟩
        · rw [if_neg o, if_pos rfl]
          exact e1
        · by_cases o1 : M 1 (642 + 5 * i + 1) = nI p
          · rw [if_pos o1, if_neg (fun z => o ⟨o1, z⟩)]
            exact e2
          · rw [if_neg o1]
            exact e2
theorem p_j74 {j : Nat} (hj : j < 16) (k : xM → Option (Int32 × xM)) : ∀ (fu i : Nat) (M : xM), i ≤ 10 → 10 - i < fu → fX11_judge_L74 (nI (792 + 10 * j)) k fu M (nI i) = k (x_fl M 1 (792 + 10 * j + i) (792 + 10 * j + 10) 0) := by
  intro fu
  induction fu with
  | zero => intro i M _ h; omega
  | succ fu ih =>
    intro i M hi hf
    rw [fX11_judge_L74]
    by_cases q : i = 10
    · subst q
      rw [if_pos (by decide), x_fl_0]
    · rw [if_neg (show ¬ (10 : Int32) ≤ nI i from u_lie (b := 10) (by omega) (by omega)), nI_add, u_g (by omega) (by omega), u_c (by omega), x_lb, x_lb, u_a1, ih (i + 1) _ (by omega) (by omega), ← Nat.add_assoc, x_fl_s _ _ (by omega)]
