theorem p_sig0 {M : xM} (h : M 0 8 = nI 0) (z : Int32) : fX11_isSign M z = some (0, M) := by
  unfold fX11_isSign
  rw [h, x_lb, if_neg (by decide)]
/-- at the tape's end -/
theorem q_End {n c e wm tl pr nt i f fu' : Nat} {w : Nat → Nat} {k : xM → Option xM} {L : List Nat} {wt : Bool} {C M : xM} (hG : z_G C M n w n c e wm tl pr nt L wt) (hi : i ≤ n) (hf : 0 < f) (hf' : 1 < fu') : z_Out C M n w c e k (c_B f C (nI i)) (fX11_expression_L19 k fu' M (bI wt) 1) := by
  obtain ⟨ht, ⟨⟨p2, p3⟩, ⟨q5, q6, q8⟩, -⟩, ⟨g1, g2⟩, h37, hS, hz, htl, hwt⟩ := id hG
  obtain ⟨⟨t1, t2⟩, hn, tb, tw⟩ := id ht
  obtain ⟨⟨⟨a1, a2⟩, ⟨a3, a4⟩, ⟨a5, a6⟩, ⟨a7, a8⟩, ⟨a9, a10⟩, ⟨a11, a12⟩⟩, ⟨b1, b2, b6, b7⟩, b3, ⟨b41, b42, b43⟩, b5⟩ := id hS
  have es : t_s w n n = 0 := by unfold t_s; rw [if_pos rfl]
  have eb : t_b w n n = n := by unfold t_b; rw [if_pos rfl]
  rw [es] at q8
  rw [eb] at q6 p3
  obtain ⟨f1, rfl⟩ : ∃ f1, fu' = f1 + 1 := ⟨fu' - 1, by omega⟩
  have X : c_B f C (nI i) = K63 C := by
    unfold c_B
    rw [c_end t1 p2 hn (Nat.le_refl _), x_b_some, if_pos rfl, if_neg (by decide)]
  have wr : k_M M (x_up (x_up M 0 9 (M 0 5)) 0 10 1) := fun x y q => by
    by_cases y1 : x = 0
    · subst y1; simp (disch := omega) only [x_uo, x_uj, x_us]
    · simp (disch := omega) only [x_uo, x_uj, x_us]
  have flt : K63 C = some (nI n, C) → ∀ Y : Option xM, Y = k (x_up (x_up M 0 9 (M 0 5)) 0 10 1) → z_Out C M n w c e k (c_B f C (nI i)) Y := fun z Y hY => Or.inl ⟨n, C, _, hn, by rw [X, z], hY, by simp (disch := omega) only [x_uo, x_uj, x_us], by simp (disch := omega) only [x_uo, x_uj, x_us]; exact q5, ⟨n, n, by simp (disch := omega) only [x_uo, x_uj, x_us]; exact q5, by simp (disch := omega) only [x_uo, x_uj, x_us]; exact q6, hn, hn⟩, k_C.rf C, wr⟩
  cases wt with
  | true =>
    refine flt ?_ _ ?_
    · unfold K63
      rw [h37, t1, if_neg (show ¬ bI true = 0 by decide), ite_self]
    · rw [show bI true = 1 from rfl, p_L19 g1, p_begB (n := n) (w := w) (a := n) (b := n) 0 (by omega) (p_sig0 q8 _) (p_sig0 q8 _) q5 q6 q8 (by omega) hn (fun z => by omega) (fun z => by omega), p_wrong g1, x_v_some, x_b_some, p_L19bad (by simp (disch := omega) only [x_uo, x_uj, x_us]) (by omega)]
  | false =>
    have sg : fX11_signHere M = some (nI 0, M) := by
      unfold fX11_signHere
      rw [q8, if_neg (by decide)]
      rfl
    rw [show bI false = 0 from rfl]
    have Y := p_L19n (k := k) (fu := f1) g1 sg rfl (p_sig0 q8 41) (Or.inl rfl)
    by_cases y : pr = 0
    · subst y
      rw [Y, if_pos (by rw [a8]; decide), p_L190 (by omega)]
      exact Or.inr ⟨C, M, n, wm, tl, nt, L, i, f, rfl, rfl, hG, Or.inl rfl, hi, by omega, k_C.rf C, k_M.rf M⟩
    · refine flt ?_ _ ?_
      · unfold K63
        rw [t1, if_neg (show ¬ C 3 4 ≤ 0 by rw [a7, kn0_le (by omega)]; omega), ite_self, ite_self]
      · rw [Y, if_neg (by rw [a8, kn0_le (by omega)]; omega), p_wrong g1, x_v_some, p_L190 (by omega)]
/-- a row of the law, to its end -/
theorem q_sim {n c e : Nat} {w : Nat → Nat} {k : xM → Option xM} : ∀ (m : Nat) (C M : xM) (a wm tl pr nt : Nat) (L : List Nat) (wt : Bool) (i f fu' : Nat), n - a ≤ m → z_G C M n w a c e wm tl pr nt L wt → i ≤ a → n - a < f → n - a + 1 < fu' → z_Out C M n w c e k (c_B f C (nI i)) (fX11_expression_L19 k fu' M (bI wt) 1) := by
  intro m
  induction m with
  | zero =>
    intro C M a wm tl pr nt L wt i f fu' hm hG hi hf hf'
    have ha : a = n := by have := hG.2.1.2.2; omega
    subst ha
    exact q_End hG hi (by omega) (by omega)
  | succ m ih =>
    intro C M a wm tl pr nt L wt i f fu' hm hG hi hf hf'
    by_cases q : a = n
    · subst q
      exact q_End hG hi (by omega) (by omega)
    · have ha : a < n := by have := hG.2.1.2.2; omega
      obtain ⟨f1, rfl⟩ : ∃ f1, fu' = f1 + 1 := ⟨fu' - 1, by omega⟩
      have ih' : ∀ (C M : xM) (a' wm tl pr nt : Nat) (L : List Nat) (wt : Bool) (i f fu' : Nat), a < a' → z_G C M n w a' c e wm tl pr nt L wt → i ≤ a' → n - a' < f → n - a' + 1 < fu' → z_Out C M n w c e k (c_B f C (nI i)) (fX11_expression_L19 k fu' M (bI wt) 1) := fun C M a' wm tl pr nt L wt i f fu' h1 h2 h3 h4 h5 => ih C M a' wm tl pr nt L wt i f fu' (by omega) h2 h3 h4 h5
      cases wt with
      | true => exact q_W ih' hG ha hi hf (by omega)
      | false => exact q_Nn ih' hG ha hi hf (by omega)
/-! headings -/
def t_hw (w : Nat → Nat) (a b h : Nat) : Prop := b - a = xs_n h ∧ ∀ j, j < xs_n h → nI (w (a + j)) = xs_b h j
theorem c_sayL {C : xM} {n a b h : Nat} {w : Nat → Nat} (hn : n ≤ 120) (hbn : b ≤ n) (hb : b - a = xs_n h) (hab : a ≤ b) (hx : xs_n h ≤ 6) (h2 : C 11 2 = nI a) (ht : ∀ i, i < n → C 14 i = nI (w i)) : ∀ (fu j : Nat), j ≤ xs_n h → xs_n h - j < fu → (∀ i, i < j → nI (w (a + i)) = xs_b h i) → ∃ v, (v = 0 ∨ v = 1) ∧ fX9_says_L20 h fu C (nI j) = some (v, C) ∧ (v = 1 ↔ ∀ i, i < xs_n h → nI (w (a + i)) = xs_b h i) := by
  intro fu
  induction fu with
  | zero => intro j _ h; omega
  | succ fu ih =>
    intro j hj hf hp
    rw [fX9_says_L20, h2, show xs_len h = nI (xs_n h) from rfl]
    by_cases q : j = xs_n h
    · rw [if_pos (by rw [q]; exact Int32.le_refl _)]
      exact ⟨1, Or.inr rfl, rfl, fun _ i hi => hp i (by omega), fun _ => rfl⟩
    · rw [if_neg (u_lie (by omega) (by omega)), nI_add, u_g (by omega) (by omega), u_g (by omega) (by omega), u_c (by omega), u_c (by omega), ht _ (by omega)]
      by_cases z : nI (w (a + j)) = xs_b h j
      · rw [if_pos z, x_lb, u_a1]
        exact ih (j + 1) (by omega) (by omega) (fun i hi => by
          by_cases y : i = j
          · rw [y]; exact z
          · exact hp i (by omega))
      · rw [if_neg z]
        exact ⟨0, Or.inl rfl, rfl, fun y => absurd y (by decide), fun y => absurd (y j (by omega)) z⟩
theorem c_says {C : xM} {n a b h : Nat} {w : Nat → Nat} (hh : h < 6) (hn : n ≤ 120) (hbn : b ≤ n) (hab : a ≤ b) (h2 : C 11 2 = nI a) (h3 : C 11 3 = nI b) (ht : ∀ i, i < n → C 14 i = nI (w i)) : ∃ v, (v = 0 ∨ v = 1) ∧ fX9_says C h = some (v, C) ∧ (v = 1 ↔ t_hw w a b h) := by
  obtain ⟨-, o2, -⟩ := xs_ok h hh
  unfold fX9_says t_hw
  rw [h2, h3, pk_sub hab, show xs_len h = nI (xs_n h) from rfl]
  by_cases q : b - a = xs_n h
  · rw [if_pos (by rw [q])]
    obtain ⟨v, v1, v2, v3⟩ := c_sayL (w := w) hn hbn q hab o2 h2 ht x_FU 0 (by omega) (by rw [x_FU_eq]; omega) (fun i hi => by omega)
    exact ⟨v, v1, v2, v3.trans ⟨fun z => ⟨q, z⟩, fun z => z.2⟩⟩
  · rw [if_neg (by rw [l_eqn (by omega) (by omega)]; exact q)]
    exact ⟨0, Or.inl rfl, rfl, fun y => absurd y (by decide), fun y => absurd y.1 q⟩
/-- one letter of a word -/
theorem p_let {M : xM} {n at_ b k : Nat} {w : Nat → Nat} (hn : n ≤ 120) (hbn : b ≤ n) (hk : k ≠ 0) (hk2 : k ≤ 255) (hat : at_ ≤ 200) (hw : ∀ i, w i ≤ 255) (h6 : M 0 6 = nI b) (ht : ∀ i, i < n → M 3 i = nI (w i)) : fX11_isLetter M (nI at_) (nI k) = some ((if at_ < b ∧ w at_ = k then 1 else 0), M) := by
  have := hw at_
  unfold fX11_isLetter
  rw [if_neg (by rw [kn0_eq (by omega)]; exact hk), x_lb, h6]
  by_cases q : at_ < b
  · rw [if_neg (u_lie q (by omega)), u_g (by omega) (by omega), u_c (by omega), ht _ (by omega)]
    by_cases z : w at_ = k
    · rw [if_pos (by rw [z]), if_pos ⟨q, z⟩]
    · rw [if_neg (by rw [l_eqn (by omega) (by omega)]; exact z), if_neg (fun y => z y.2)]
  · rw [if_pos (nI_le (by omega) (by omega)), if_neg (fun y => q y.1)]
theorem p_let0 {M : xM} {at_ b : Nat} (hb : b ≤ 120) (hat : at_ ≤ 200) (h6 : M 0 6 = nI b) : fX11_isLetter M (nI at_) 0 = some ((if at_ = b then 1 else 0), M) := by
  unfold fX11_isLetter
  rw [if_pos rfl, h6]
  by_cases q : at_ = b
  · rw [if_pos (by rw [q]), if_pos q]
  · rw [if_neg (by rw [l_eqn (by omega) (by omega)]; exact q), if_neg q]
