def l_MX (R : Nat → Nat) : Nat → Nat
  | 0 => 0
  | m + 1 => if l_MX R m < R m then R m else l_MX R m
theorem l_MX.ge {R : Nat → Nat} : ∀ {m k : Nat}, k < m → R k ≤ l_MX R m
  | 0, k, h => by omega
  | m + 1, k, h => by
    rw [l_MX]
    by_cases e : k = m
    · subst e
      split <;> omega
    · have := l_MX.ge (R := R) (m := m) (k := k) (by omega)
      split <;> omega
theorem l_MX.le {R : Nat → Nat} (bR : ∀ m, R m ≤ 99999) : ∀ m, l_MX R m ≤ 99999
  | 0 => by show 0 ≤ _; omega
  | m + 1 => by
    have := l_MX.le bR m
    have := bR m
    rw [l_MX]
    split <;> omega
theorem l_rw.z {R : Nat → Nat} {L : Nat} : ∀ m, l_rw R L 0 m = 0
  | 0 => rfl
  | m + 1 => by
    rw [l_rw, if_pos (l_pay.z m)]
    exact l_rw.z m
theorem c_ow {C : xM} {s : Nat → Int32} {nP nJ t j p : Nat} (gJ : r_J 0 C s nJ) (iJ : i_J s nP nJ t) (hj : j < nJ) (hn : nJ ≤ 16) : fX5_isOwing C (nI j) (nI p) = some ((if s_o s p j = true then 1 else 0), C) := by
  have j0 : C (169 + j) 0 = s (792 + 10 * j) := (gJ j hj).1 0 (by decide)
  have j5 : C (169 + j) 5 = s (792 + 10 * j + 5) := (gJ j hj).1 5 (by decide)
  obtain ⟨hu, eu⟩ := s_U.eq iJ
  have e1 := eu j hj
  have h1 := hu j
  unfold fX5_isOwing
  rw [u_g (by omega) (by omega), u_c (by omega), x_lb, j0, j5, c_unp hj gJ]
  unfold s_o
  by_cases q1 : s (792 + 10 * j) = nI p
  · rw [if_pos q1]
    by_cases q2 : s (792 + 10 * j + 5) = 3
    · rw [if_pos q2, if_neg (by rw [decide_eq_true_eq]; exact fun z => z.2.1 q2)]
    · rw [if_neg q2, x_b_some]
      by_cases q3 : sp_unp s j = 0
      · rw [if_pos (by rw [q3]; exact Int32.le_refl _), if_neg (by rw [decide_eq_true_eq]; exact fun z => z.2.2 q3)]
      · rw [if_neg (by
          rw [e1, kn0_le (by omega)]
          intro z
          exact q3 (by rw [e1, show s_U s nJ j = 0 by omega]; rfl)), if_pos (by rw [decide_eq_true_eq]; exact ⟨q1, q2, q3⟩)]
  · rw [if_neg q1, if_neg (by rw [decide_eq_true_eq]; exact fun z => q1 z.1)]
theorem c_owedL {C : xM} {s : Nat → Int32} {nP nJ t p : Nat} (h4 : C 1 4 = nI nJ) (gJ : r_J 0 C s nJ) (iJ : i_J s nP nJ t) (hn : nJ ≤ 16) : ∀ (fu j : Nat), j ≤ nJ → nJ - j < fu → fX5_owedIn_L4 (nI p) fu C (nI (l_OW (s_o s p) (s_U s nJ) j)) (nI j) = some (nI (l_OW (s_o s p) (s_U s nJ) nJ), C) := by
  obtain ⟨hu, eu⟩ := s_U.eq iJ
  intro fu
  induction fu with
  | zero => intro j _ h; omega
  | succ fu ih =>
    intro j hj hf
    rw [fX5_owedIn_L4, h4]
    by_cases q : j = nJ
    · subst q
      rw [if_pos (Int32.le_refl _)]
    · have hj' : j < nJ := by omega
      have ih1 := ih (j + 1) (by omega) (by omega)
      rw [l_OW] at ih1
      rw [if_neg (u_lie hj' (by omega)), c_ow gJ iJ hj' hn, x_b_some, x_lb]
      by_cases z : s_o s p j = true
      · rw [if_pos z] at ih1
        rw [if_pos z, if_neg (by decide : ¬ (1 : Int32) = 0), u_g (by omega) (by omega), u_c (by omega), c_unp hj' gJ, x_b_some, eu j hj', x_lb, nI_add]
        simp only [x_lb, u_a1]
        exact ih1
      · rw [if_neg z] at ih1
        rw [if_neg z, if_pos rfl]
        simp only [x_lb, u_a1]
        exact ih1
theorem c_roomL {C0 : xM} {R : Nat → Nat} {p W : Nat} (hW : W < 2 ^ 31) (bR : ∀ m, R m ≤ 99999) (hr : ∀ C1 : xM, (∀ a b, a ≠ 17 → C1 a b = C0 a b) → ∀ m, m < 24 → fX8_roomOf C1 (nI p) (nI m) = some (nI (R m), C1)) (k : xM → Int32 → Option (Int32 × xM)) : ∀ (fu m : Nat) (C1 : xM), m ≤ 24 → 24 - m < fu → (∀ a b, a ≠ 17 → C1 a b = C0 a b) → (∀ x, x < m → C1 17 x = nI (if W = 0 then 0 else R x)) → ∃ C2, (∀ a b, a ≠ 17 → C2 a b = C0 a b) ∧ (∀ x, x < 24 → C2 17 x = nI (if W = 0 then 0 else R x)) ∧ fX5_isFound_L12 (nI p) (nI W) k fu C1 (nI (l_MX (fun x => if W = 0 then 0 else R x) m)) (nI m) = k C2 (nI (l_MX (fun x => if W = 0 then 0 else R x) 24)) := by
  intro fu
  induction fu with
  | zero => intro m C _ h; omega
  | succ fu ih =>
    intro m C1 hm hf h0 h1
    rw [fX5_isFound_L12]
    by_cases q : m = 24
    · subst q
      rw [if_pos (show (24 : Int32) ≤ nI 24 from by decide)]
      exact ⟨C1, h0, h1, rfl⟩
    · have hm' : m < 24 := by omega
      have b1 := bR m
      have b2 := l_MX.le (R := fun x => if W = 0 then 0 else R x) (fun m => by show (if W = 0 then 0 else R m) ≤ _; have := bR m; split <;> omega) m
      obtain ⟨C2, e1, e2, e3⟩ := ih (m + 1) (x_up C1 17 m (nI (if W = 0 then 0 else R m))) (by omega) (by omega) (fun a b h => (x_uo h).trans (h0 a b h)) (fun x hx => by
        by_cases y : x = m
        · subst y; simp (disch := omega) only [x_uo, x_uj, x_us]
        · simp (disch := omega) only [x_uo, x_uj, x_us]; exact h1 x (by omega))
      refine ⟨C2, e1, e2, Eq.trans ?_ e3⟩
      rw [l_MX, apply_ite nI (l_MX (fun x => if W = 0 then 0 else R x) m < (fun x => if W = 0 then 0 else R x) m)]
      rw [if_neg (show ¬ (24 : Int32) ≤ nI m from u_lie (b := 24) hm' (by decide))]
      simp only [kn0_eq hW]
      by_cases z : W = 0
      · simp (disch := omega) only [x_lb, u_g, u_c, x_uo, x_uj, x_us, eq_true z, if_true, u_a1]
        simp only [z, if_true] at b2 ⊢
        rw [if_neg (by rw [kn0_lt (by omega)]; omega), if_neg (by omega)]
        rfl
      · simp (disch := omega) only [x_lb, u_g, u_c, x_uo, x_uj, x_us, eq_false z, if_false, hr C1 h0 m hm', x_b_some, u_a1]
        simp (disch := omega) only [eq_false z, if_false] at b2 ⊢
        simp (disch := omega) only [l_ltn]
theorem c_found {C : xM} {s : Nat → Int32} {nP nF nD nJ t p : Nat} (hS : r_St 1 0 C s nP nF nD nJ t) (hI : i_St s nP nF nD nJ t) (hp : p < nP) :
    (l_HB (s_o s p) (s_U s nJ) (s_D s nJ) (s_R s nF p) t 200000 nJ = false ∧ ∃ C', fX5_isFound C (nI p) = some (0, C') ∧ ∀ a b, a ≠ 4 → a ≠ 17 → a ≠ 18 → C' a b = C a b) ∨
    (∃ L C', L ≤ 99999 ∧ l_least (fun L => l_HB (s_o s p) (s_U s nJ) (s_D s nJ) (s_R s nF p) t L nJ) L ∧ fX5_isFound C (nI p) = some (1, C') ∧ (∀ a b, a ≠ 4 → a ≠ 17 → a ≠ 18 → C' a b = C a b) ∧ C' 4 2 = nI L ∧ (∀ x, x < 24 → C' 18 x = nI (l_pay (s_R s nF p) L (l_OW (s_o s p) (s_U s nJ) nJ) x)) ∧ C' 4 3 = nI (l_rw (s_R s nF p) L (l_OW (s_o s p) (s_U s nJ) nJ) 24)) := by
  obtain ⟨⟨⟨c0, c1, c2, c3, c4⟩, ⟨s0, s1, s2, s3, s4⟩, ⟨n1, n2, n3, n4, n5⟩⟩, gP, gF, gD, gJ, gR, gL⟩ := id hS
  obtain ⟨iP, iF, iD, iJ, iR⟩ := hI
  obtain ⟨hu, eu⟩ := s_U.eq iJ
  obtain ⟨hd, ed⟩ := s_D.eq iJ n5 iR
  obtain ⟨hr, er⟩ := s_R.eq p iF iR
  have hW0 := l_OW.le (o := s_o s p) hu nJ
  have oU : ∀ j, j < nJ → s_o s p j = true → s_U s nJ j ≠ 0 := fun j hj ho z => by
    unfold s_o at ho
    rw [decide_eq_true_eq] at ho
    exact ho.2.2 (by rw [eu j hj, z]; rfl)
  generalize hW : l_OW (s_o s p) (s_U s nJ) nJ = W at hW0
  have hWn : W = 0 → ∀ j, j < nJ → s_o s p j = false := fun z j hj => by
    cases e : s_o s p j with
    | false => rfl
    | true => exact absurd (hW.trans z) (l_OW.pos e (oU j hj e) hj)
  have kS : ∀ C1 : xM, (∀ a b, a ≠ 4 → a ≠ 17 → a ≠ 18 → C1 a b = C a b) → r_St 1 0 C1 s nP nF nD nJ t := fun C1 h => hS.keep (fun j => h _ _ (by omega) (by omega) (by omega)) (fun a j z => h a j (by omega) (by omega) (by omega))
  have w0 : fX5_owedIn C (nI p) = some (nI W, C) := by
    have := c_owedL (p := p) c4 gJ iJ n4 x_FU 0 (by omega) (by rw [x_FU_eq]; omega)
    rw [hW] at this
    exact this
  have bRc : ∀ m, (fun x => if W = 0 then 0 else s_R s nF p x) m ≤ 99999 := fun m => by show (if W = 0 then 0 else s_R s nF p m) ≤ _; have := hr m; split <;> omega
  obtain ⟨C1, a1, a2, a3⟩ := c_roomL (C0 := C) (R := s_R s nF p) (p := p) (W := W) (by omega) hr (fun C1 h m hm => by
    obtain ⟨⟨⟨k0, k1, k2, _, _⟩, _, _⟩, kP, kF, _, _, kR, _⟩ := kS C1 (fun a b _ z _ => h a b z)
    rw [c_room (s := s) (nI m) k2 k1 (k0.trans s0.symm) n2 hp n1 kF kP kR iP, er]) (fun (M_6 : xM) (x4_4 : Int32) => x_b (fX5_holds M_6 (nI p) x4_4) fun v_9 M_7 => if v_9 = 0 then (some ((0 : Int32), M_7)) else (x_b (fX5_leastUpTo M_7 x4_4 (nI p)) fun v_13 M_11 => x_l (x_up M_11 4 2 v_13) fun M_14 => x_v (fX5_setPays M_14 (nI W)) fun M_15 => some ((1 : Int32), M_15))) x_FU 0 C (by omega) (by rw [x_FU_eq]; omega) (fun _ _ _ => rfl) (fun x hx => by omega)
  have a4 : fX5_isFound C (nI p) = _ := Eq.trans (by unfold fX5_isFound; rw [w0]; rfl) a3
  generalize hMX : l_MX (fun x => if W = 0 then 0 else s_R s nF p x) 24 = mx at a4
  have hmx : mx ≤ 99999 := by rw [← hMX]; exact l_MX.le bRc 24
  obtain ⟨⟨⟨k0, k1, k2, k3, k4⟩, _, _⟩, kP, kF, kD, kJ, kR, kL⟩ := kS C1 (fun a b _ z _ => a1 a b z)
  have hh : ∀ L, L ≤ 200000 → fX5_holds C1 (nI p) (nI L) = some ((if l_HB (s_o s p) (s_U s nJ) (s_D s nJ) (s_R s nF p) t L nJ = true then 1 else 0), C1) := fun L hL => by
    have := c_hold (C := C1) (o := s_o s p) (U := s_U s nJ) (D := s_D s nJ) (R := fun x => if W = 0 then 0 else s_R s nF p x) (L := L) (p := p) k0 k4 n4 a2 bRc n5 hL hd hu (fun j hj => c_ow kJ iJ hj n4) (fun j hj => by rw [c_unp hj kJ, eu j hj]) (fun j hj => by rw [show C1 (169 + j) 1 = s (792 + 10 * j + 1) from (kJ j hj).1 1 (by decide), show C1 23 12 = s 13 from kR 12 (by decide)]; exact ed j hj) x_FU 0 (by omega) (by rw [x_FU_eq]; omega) rfl
    have e : l_HB (s_o s p) (s_U s nJ) (s_D s nJ) (fun x => if W = 0 then 0 else s_R s nF p x) t L nJ = l_HB (s_o s p) (s_U s nJ) (s_D s nJ) (s_R s nF p) t L nJ := by
      by_cases z : W = 0
      · rw [l_HB.none (hWn z), l_HB.none (hWn z)]
      · simp only [eq_false z, if_false]
    rw [e] at this
    exact this
  have htop : l_HB (s_o s p) (s_U s nJ) (s_D s nJ) (s_R s nF p) t mx nJ = l_HB (s_o s p) (s_U s nJ) (s_D s nJ) (s_R s nF p) t 200000 nJ := by
    by_cases z : W = 0
    · rw [l_HB.none (hWn z), l_HB.none (hWn z)]
    · refine l_HB.top (fun k hk => ⟨?_, by have := hr k; omega⟩) nJ
      have := l_MX.ge (R := fun x => if W = 0 then 0 else s_R s nF p x) (m := 24) (k := k) hk
      rw [hMX] at this
      simp only [eq_false z, if_false] at this
      exact this
  rw [hh mx (by omega), x_b_some, htop] at a4
  cases eb : l_HB (s_o s p) (s_U s nJ) (s_D s nJ) (s_R s nF p) t 200000 nJ with
  | false =>
    rw [eb] at a4
    exact Or.inl ⟨rfl, C1, a4, fun a b _ z _ => a1 a b z⟩
  | true =>
    rw [eb] at a4
    obtain ⟨L, l1, l2, l3⟩ := c_lu (C := C1) (F := fun L => l_HB (s_o s p) (s_U s nJ) (s_D s nJ) (s_R s nF p) t L nJ) (p := p) (fun L hL => hh L (by omega)) (fun a b h z => l_HB.mono h z) x_FU 0 0 mx (by omega) (by rw [x_FU_eq]; omega) (by omega) hmx (by omega) (htop.trans eb) (fun x hx => by omega)
    have l3' : fX5_leastUpTo C1 (nI mx) (nI p) = some (nI L, C1) := l3
    obtain ⟨C', b1, b2, b3, b4⟩ := c_sp_ (R := fun x => if W = 0 then 0 else s_R s nF p x) (L := L) (W := W) bRc (by omega) (by omega) x_FU 0 (x_up (x_up C1 4 2 (nI L)) 4 3 0) (by omega) (by rw [x_FU_eq]; omega) (by simp (disch := omega) only [x_uo, x_uj, x_us]) (fun x hx => by simp (disch := omega) only [x_uo, x_uj, x_us]; exact a2 x hx) (fun x hx => by omega) (by simp (disch := omega) only [x_uo, x_uj, x_us]; rfl)
    refine Or.inr ⟨L, C', by omega, l2, ?_, ?_, ?_, ?_, ?_⟩
    · rw [a4]
      refine Eq.trans (if_neg (by decide)) ?_
      rw [l3', x_b_some, x_lb]
      have b1' : fX5_setPays (x_up C1 4 2 (nI L)) (nI W) = some C' := b1
      rw [b1', x_v_some]
    · intro a b h1 h2 h3
      rw [b2 a b (by omega), x_uo h1, x_uo h1, a1 a b h2]
    · rw [b2 _ _ (by omega)]; simp (disch := omega) only [x_uo, x_uj, x_us]
    · intro x hx
      rw [b3 x hx]
      by_cases z : W = 0
      · rw [z, l_pay.z, l_pay.z]
      · simp only [eq_false z, if_false]
    · rw [b4]
      by_cases z : W = 0
      · rw [z, l_rw.z, l_rw.z]
      · simp only [eq_false z, if_false]
