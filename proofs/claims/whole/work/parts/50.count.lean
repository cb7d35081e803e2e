def sN (f : Nat → Nat) : Nat → Nat
  | 0 => 0
  | n + 1 => sN f n + f n
theorem sN_cong {f g : Nat → Nat} : ∀ {n : Nat}, (∀ i, i < n → f i = g i) → sN f n = sN g n
  | 0, _ => rfl
  | n + 1, h => by rw [sN, sN, sN_cong (fun i hi => h i (by omega)), h n (by omega)]
theorem sN_add (f g : Nat → Nat) : ∀ n, sN (fun i => f i + g i) n = sN f n + sN g n
  | 0 => rfl
  | n + 1 => by rw [sN, sN, sN, sN_add f g n]; omega
theorem sN_zero : ∀ n, sN (fun _ => 0) n = 0
  | 0 => rfl
  | n + 1 => by rw [sN, sN_zero n]
theorem sN_swap (f : Nat → Nat → Nat) (m : Nat) : ∀ n, sN (fun i => sN (fun j => f i j) m) n = sN (fun j => sN (fun i => f i j) n) m
  | 0 => by simp only [sN]; exact (sN_zero m).symm
  | n + 1 => by
    rw [sN, sN_swap f m n]
    simp only [sN]
    rw [sN_add]
theorem sN_one (q : Nat) : ∀ n, sN (fun j => if j = q then 1 else 0) n = if q < n then 1 else 0
  | 0 => rfl
  | n + 1 => by
    rw [sN, sN_one q n]
    by_cases h1 : q < n
    · rw [if_pos h1, if_neg (by omega), if_pos (by omega)]
    · by_cases h2 : n = q
      · rw [if_neg h1, if_pos h2, if_pos (by omega)]
      · rw [if_neg h1, if_neg h2, if_neg (by omega)]
theorem sm_nat {f : Nat → Int32} {g : Nat → Nat} : ∀ {n : Nat}, (∀ i, i < n → f i = nI (g i)) → sm f n = nI (sN g n)
  | 0, _ => rfl
  | n + 1, h => by rw [sm, sN, sm_nat (fun i hi => h i (by omega)), h n (by omega), nI_add]
theorem sN_le {g : Nat → Nat} {c : Nat} : ∀ {n : Nat}, (∀ i, i < n → g i ≤ c) → sN g n ≤ n * c
  | 0, _ => by simp [sN]
  | n + 1, h => by
    have h1 := sN_le (n := n) (fun i hi => h i (by omega))
    have h2 := h n (by omega)
    rw [sN, Nat.succ_mul]
    omega
/-- pairs -/
theorem sp_pairs {s : Nat → Int32} {n : Nat} (hn : n ≤ 12) (iP : i_P s n) : sN (fun i => if s (30 + 3 * i + 1) = -1 then 0 else 1) n = 2 * sN (fun i => if s (30 + 3 * i + 1) ≤ nI i then 0 else 1) n := by
  have up : ∀ i, i < n → (if s (30 + 3 * i + 1) ≤ nI i then 0 else 1) = sN (fun j => if s (30 + 3 * i + 1) = nI j ∧ i < j then 1 else 0) n := by
    intro i hi
    rcases (iP i hi).2.1 with e | ⟨q, hq, hne, e, -⟩
    · rw [e, if_pos (Int32.le_trans (show (-1 : Int32) ≤ 0 by decide) (nI_pos' (by omega)))]
      have : ∀ j, j < n → (if (-1 : Int32) = nI j ∧ i < j then 1 else 0) = 0 := by
        intro j hj
        refine if_neg (fun z => ?_)
        exact (l_neg' (show j < 2 ^ 31 by omega)) ▸ z.1
      rw [sN_cong this, sN_zero]
    · rw [e]
      have : ∀ j, j < n → (if nI q = nI j ∧ i < j then 1 else 0) = (if j = q then (if i < q then 1 else 0) else 0) := by
        intro j hj
        by_cases h1 : j = q
        · subst h1
          rw [if_pos rfl]
          by_cases h2 : i < j
          · rw [if_pos ⟨rfl, h2⟩, if_pos h2]
          · rw [if_neg (fun z => h2 z.2), if_neg h2]
        · rw [if_neg h1, if_neg (fun z => h1 ((l_eqn (show q < 2 ^ 31 by omega) (show j < 2 ^ 31 by omega)) ▸ z.1).symm)]
      rw [sN_cong this]
      by_cases h2 : i < q
      · simp only [h2, if_true]
        rw [sN_one, if_pos hq, if_neg (u_lie h2 (by omega))]
      · simp only [h2, if_false, ite_self]
        rw [sN_zero, if_pos (nI_le (by omega) (by omega))]
  have dn : ∀ j, j < n → (if s (30 + 3 * j + 1) = -1 then 0 else 1) = (if s (30 + 3 * j + 1) ≤ nI j then 0 else 1) + sN (fun i => if s (30 + 3 * i + 1) = nI j ∧ i < j then 1 else 0) n := by
    intro j hj
    rcases (iP j hj).2.1 with e | ⟨q, hq, hne, e, e2⟩
    · rw [e, if_pos rfl, if_pos (Int32.le_trans (show (-1 : Int32) ≤ 0 by decide) (nI_pos' (by omega)))]
      have : ∀ i, i < n → (if s (30 + 3 * i + 1) = nI j ∧ i < j then 1 else 0) = 0 := by
        intro i hi
        refine if_neg (fun z => ?_)
        rcases (iP i hi).2.1 with e3 | ⟨x, hx, -, e3, e4⟩
        · rw [e3] at z
          exact (l_neg' (show j < 2 ^ 31 by omega)) ▸ z.1
        · have hxj : x = j := (l_eqn (show x < 2 ^ 31 by omega) (show j < 2 ^ 31 by omega)) ▸ (e3.symm.trans z.1)
          rw [hxj, e] at e4
          exact (l_neg' (show i < 2 ^ 31 by omega)) ▸ e4
      rw [sN_cong this, sN_zero]
    · rw [e, if_neg (show ¬ nI q = (-1 : Int32) by rw [l_neg (by omega)]; exact id)]
      have : ∀ i, i < n → (if s (30 + 3 * i + 1) = nI j ∧ i < j then 1 else 0) = (if i = q then (if q < j then 1 else 0) else 0) := by
        intro i hi
        by_cases h1 : i = q
        · subst h1
          rw [if_pos rfl]
          by_cases h2 : i < j
          · rw [if_pos ⟨e2, h2⟩, if_pos h2]
          · rw [if_neg (fun z => h2 z.2), if_neg h2]
        · rw [if_neg h1]
          refine if_neg (fun z => h1 ?_)
          rcases (iP i hi).2.1 with e3 | ⟨x, hx, -, e3, e4⟩
          · rw [e3] at z
            exact False.elim ((l_neg' (show j < 2 ^ 31 by omega)) ▸ z.1)
          · have hxj : x = j := (l_eqn (show x < 2 ^ 31 by omega) (show j < 2 ^ 31 by omega)) ▸ (e3.symm.trans z.1)
            rw [hxj, e] at e4
            exact ((l_eqn (show q < 2 ^ 31 by omega) (show i < 2 ^ 31 by omega)) ▸ e4).symm
      rw [sN_cong this]
      by_cases h2 : q < j
      · simp only [h2, if_true]
        rw [sN_one, if_pos hq, if_pos (nI_le (by omega) (by omega))]
      · simp only [h2, if_false, ite_self]
        rw [sN_zero, if_neg (u_lie (by omega) (by omega))]
  rw [sN_cong dn, sN_add]
  have : sN (fun j => sN (fun i => if s (30 + 3 * i + 1) = nI j ∧ i < j then 1 else 0) n) n = sN (fun i => if s (30 + 3 * i + 1) ≤ nI i then 0 else 1) n := by
    rw [← sN_swap (fun i j => if s (30 + 3 * i + 1) = nI j ∧ i < j then 1 else 0) n n]
    exact (sN_cong up).symm
  rw [this]
  omega
theorem p_cpl {M : xM} {nP : Nat} (hP : M 1 17 = nI nP) (hn : nP ≤ 12) : fX11_count_L90 x_FU M 0 0 = some (sm (fun i => if M 1 (30 + 3 * i + 1) ≤ nI i then 0 else 1) nP, M) := by
  refine sm_loop (K := fun x => some (x, M)) (fun fu x i => fX11_count_L90 fu M x i) _ nP ?_ ?_ x_FU 0 (Nat.zero_le _) (by rw [x_FU_eq]; omega)
  · intro fu x
    rw [fX11_count_L90, hP, if_pos (Int32.le_refl _)]
  · intro fu x i hi
    rw [fX11_count_L90, hP, if_neg (u_lie hi (by omega))]
    simp (disch := omega) only [x_l, u_a1, u_3, u_g, u_c]
    grind
theorem p_cus {M : xM} {nP : Nat} (hP : M 1 17 = nI nP) (hn : nP ≤ 12) : fX11_count_L160 x_FU M 0 0 = some (sm (fun i => M 1 (30 + 3 * i + 2)) nP, M) := by
  refine sm_loop (K := fun x => some (x, M)) (fun fu x i => fX11_count_L160 fu M x i) _ nP ?_ ?_ x_FU 0 (Nat.zero_le _) (by rw [x_FU_eq]; omega)
  · intro fu x
    rw [fX11_count_L160, hP, if_pos (Int32.le_refl _)]
  · intro fu x i hi
    rw [fX11_count_L160, hP, if_neg (u_lie hi (by omega))]
    simp (disch := omega) only [x_l, u_a1, u_a2, u_3, u_g, u_c]
theorem c_cus {C : xM} {s : Nat → Int32} {nP : Nat} (hP : C 1 1 = nI nP) (hn : nP ≤ 12) (gP : r_P 0 C s nP) : fX8_allCustody C = some (sm (fun i => s (30 + 3 * i + 2)) nP, C) := by
  unfold fX8_allCustody
  refine sm_loop (K := fun x => some (x, C)) (fun fu x i => fX8_allCustody_L4 fu C x i) _ nP ?_ ?_ x_FU 0 (Nat.zero_le _) (by rw [x_FU_eq]; omega)
  · intro fu x
    rw [fX8_allCustody_L4, hP, if_pos (Int32.le_refl _)]
  · intro fu x i hi
    have g2 : C (31 + i) 2 = s (30 + 3 * i + 2) := gP i hi 2 (by decide)
    rw [fX8_allCustody_L4, hP, if_neg (u_lie hi (by omega))]
    simp (disch := omega) only [x_l, u_a1, u_g, u_c, g2]
theorem c_cpl {C : xM} {s : Nat → Int32} {nP : Nat} (hP : C 1 1 = nI nP) (hn : nP ≤ 12) (gP : r_P 0 C s nP) (iP : i_P s nP) : fX8_couples C = some (sm (fun i => if s (30 + 3 * i + 1) ≤ nI i then 0 else 1) nP, C) := by
  have h : fX8_couples_L4 (fun (M_3 : xM) (x1_1 : Int32) => some ((x1_1 / (2 : Int32)), M_3)) x_FU C 0 0 = some (sm (fun i => if s (30 + 3 * i + 1) = -1 then 0 else 1) nP / 2, C) := by
    refine sm_loop (K := fun x => some (x / 2, C)) (fun fu x i => fX8_couples_L4 (fun (M_3 : xM) (x1_1 : Int32) => some ((x1_1 / (2 : Int32)), M_3)) fu C x i) _ nP ?_ ?_ x_FU 0 (Nat.zero_le _) (by rw [x_FU_eq]; omega)
    · intro fu x
      rw [fX8_couples_L4, hP, if_pos (Int32.le_refl _)]
    · intro fu x i hi
      have g1 : C (31 + i) 1 = s (30 + 3 * i + 1) := gP i hi 1 (by decide)
      rw [fX8_couples_L4, hP, if_neg (u_lie hi (by omega))]
      simp (disch := omega) only [x_l, u_a1, u_g, u_c, c_coupled, c_oneIf, x_b_some, g1, u_if1]
  unfold fX8_couples
  refine (Eq.trans ?_ h).trans ?_
  · rfl
  · rw [sm_nat (g := fun i => if s (30 + 3 * i + 1) = -1 then 0 else 1) (fun i hi => by split <;> rfl), sm_nat (g := fun i => if s (30 + 3 * i + 1) ≤ nI i then 0 else 1) (fun i hi => by split <;> rfl), sp_pairs hn iP]
    have hb := sN_le (g := fun i => if s (30 + 3 * i + 1) ≤ nI i then 0 else 1) (c := 1) (n := nP) (fun i hi => by show (if _ then 0 else 1) ≤ 1; split <;> omega)
    rw [show (2 : Int32) = nI 2 from rfl, pk_div (by omega) (by decide) (by decide), Nat.mul_div_cancel_left _ (by decide)]
theorem q_count {C M : xM} (h : Rel C M) (a : Int32) : q_Stp (fX10_count C a) (fX11_count M a) := by
  obtain ⟨⟨nP, nF, nD, nJ, t, hS, hL, iP, iF, iD, iJ, iR⟩, hR⟩ := id h
  obtain ⟨⟨⟨c0, c1, c2, c3, c4⟩, ⟨s0, s1, s2, s3, s4⟩, ⟨n1, n2, n3, n4, n5⟩⟩, gP, gF, gD, gJ, gR, gL⟩ := id hS
  obtain ⟨-, ⟨tn, t1, t2, t3, t4⟩, ⟨wn, w1, w2, w3, w4⟩, -⟩ := id hR
  unfold fX10_count fX11_count
  rw [c_cpl c1 n1 gP iP, c_open c3 n3 gD, c_cus c1 n1 gP, p_cpl s1 n1, p_deeds _ _ s3 n3, p_cus s1 n1, c0, c1, c2, c3, c4, s0, s1, s2, s3, s4, t2, t3, w2, w3]
  simp only [x_b_some]
  repeat (refine q_its h (fun _ => ?_))
  exact q_same h rfl rfl
