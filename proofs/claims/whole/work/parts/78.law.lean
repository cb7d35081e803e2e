theorem z_S.push' {C C' M M' : xM} {c e wm d tl pr pr' nt nt' x : Nat} {L : List Nat} (h : z_S C M c e wm d tl pr nt L) (hx : z_ok x) (ha : ∀ y, L.head? = some y → y = 3 → x = 1 ∨ x = 3) (hc : ∀ a b, (a = 3 ∧ b ≠ 7 ∧ b ≠ 3 ∧ b ≠ 4 ∧ b ≠ 5) ∨ a = 12 ∨ (a = 13 ∧ b ≠ L.length) ∨ a = 15 ∨ a = 16 → C' a b = C a b) (hm : ∀ a b, (a = 0 ∧ (b = 11 ∨ b = 12 ∨ b = 13)) ∨ a = 4 ∨ (a = 5 ∧ b ≠ L.length) → M' a b = M a b) (c13 : C' 13 L.length = nI (z_hc x)) (m5 : M' 5 L.length = nI x) (c3 : C' 3 3 = nI (L.length + 1)) (m16 : M' 0 16 = nI (L.length + 1)) (c4 : C' 3 4 = nI pr') (m17 : M' 0 17 = nI pr') (c5 : C' 3 5 = nI nt') (m18 : M' 0 18 = nI nt') (hp : z_ct 1 (x :: L) = pr') (hn : z_ct 3 (x :: L) = nt') (hp8 : pr' ≤ 8) (hn8 : nt' ≤ 8) : z_S C' M' c e wm d tl pr' nt' (x :: L) := by
  obtain ⟨⟨⟨a1, a2⟩, ⟨a3, a4⟩, ⟨a5, a6⟩, ⟨a7, a8⟩, ⟨a9, a10⟩, ⟨a11, a12⟩⟩, ⟨b1, b2, b6, b7⟩, b3, b4, b5⟩ := h
  refine ⟨⟨⟨(hc _ _ (by omega)).trans a1, (hm _ _ (by omega)).trans a2⟩, ⟨(hc _ _ (by omega)).trans a3, (hm _ _ (by omega)).trans a4⟩, ⟨c3, m16⟩, ⟨c4, m17⟩, ⟨c5, m18⟩, ⟨(hc _ _ (by omega)).trans a11, (hm _ _ (by omega)).trans a12⟩⟩, ⟨⟨hx, c13, m5, b1.keep (fun j hj => hc _ _ (by omega)) (fun j hj => hm _ _ (by omega))⟩, ⟨ha, b2⟩, hp, hn⟩, b3.keep (fun k _ => hc _ _ (by omega)) (fun k _ => hm _ _ (by omega)), ⟨b4.1, hp8, hn8⟩, b5.keep (fun j _ => hc _ _ (by omega)) (fun k _ => hc _ _ (by omega)) (fun k _ => hm _ _ (by omega))⟩
theorem c_hold' {C : xM} {h : Nat} (v : Int32) (h3 : C 3 3 = nI h) (hh : h < 120) : fX6_hold C v = some (x_up (x_up C 13 h v) 3 3 (nI (h + 1))) := by
  unfold fX6_hold
  rw [h3, if_pos (by rw [kn120_lt (by omega)]; exact hh), u_g hh (by decide), u_c (by omega), x_lb, x_lb, show x_up C 13 h v 3 3 = nI h by simp (disch := omega) only [x_uo, x_uj, x_us]; exact h3, u_a1]
/-- the number at hand -/
def t_nm (w : Nat → Nat) (a : Nat) : Nat → Nat
  | 0 => 0
  | k + 1 => 10 * t_nm w a k + (w (a + k) - 48)
theorem t_nm.le {w : Nat → Nat} {a : Nat} : ∀ k, (∀ i, a ≤ i → i < a + k → 48 ≤ w i ∧ w i ≤ 57) → t_nm w a k < 10 ^ k
  | 0, _ => by show 0 < 1; omega
  | k + 1, h => by
    have h1 := t_nm.le (w := w) (a := a) k (fun i h1 h2 => h i h1 (by omega))
    have h2 := h (a + k) (by omega) (by omega)
    rw [t_nm, Nat.pow_succ]
    omega
theorem t_dig (b : Nat) : t_so b = 2 ↔ 48 ≤ b ∧ b ≤ 57 := by
  unfold t_so
  by_cases q1 : 97 ≤ b ∧ b ≤ 122
  · rw [if_pos q1]; omega
  · rw [if_neg q1]
    by_cases q2 : 48 ≤ b ∧ b ≤ 57
    · rw [if_pos q2]; omega
    · rw [if_neg q2]; omega
theorem t_let (b : Nat) : t_so b = 1 ↔ 97 ≤ b ∧ b ≤ 122 := by
  unfold t_so
  by_cases q1 : 97 ≤ b ∧ b ≤ 122
  · rw [if_pos q1]; omega
  · rw [if_neg q1]
    split <;> omega
theorem t_nms {v d : Nat} (h1 : 48 ≤ d) : (10 : Int32) * nI v + nI d - 48 = nI (10 * v + (d - 48)) := by
  rw [show (10 : Int32) = nI 10 from rfl, pk_mul, nI_add, show (48 : Int32) = nI 48 from rfl, pk_sub (by omega)]
  congr 1
  omega
theorem c_num {C : xM} {w : Nat → Nat} {n a b : Nat} (hn : n ≤ 120) (hb : b ≤ n) (h3 : C 11 3 = nI b) (ht : ∀ i, i < n → C 14 i = nI (w i)) (hd : ∀ i, a ≤ i → i < b → 48 ≤ w i ∧ w i ≤ 57) : ∀ (fu j : Nat), a + j ≤ b → b - (a + j) < fu → fX9_number_L7 fu C (nI (t_nm w a j)) (nI (a + j)) = some (nI (t_nm w a (b - a)), C) := by
  intro fu
  induction fu with
  | zero => intro j _ h; omega
  | succ fu ih =>
    intro j hj hf
    rw [fX9_number_L7, h3]
    by_cases q : a + j = b
    · rw [if_pos (by rw [q]; exact Int32.le_refl _), show b - a = j by omega]
    · rw [if_neg (u_lie (by omega) (by omega)), u_g (by omega) (by omega), u_c (by omega), ht _ (by omega), t_nms (hd _ (by omega) (by omega)).1, x_lb, x_lb, u_a1]
      exact ih (j + 1) (by omega) (by omega)
theorem p_num {M : xM} {w : Nat → Nat} {n a b : Nat} (k : xM → Int32 → Option (Int32 × xM)) (hn : n ≤ 120) (hb : b ≤ n) (h6 : M 0 6 = nI b) (ht : ∀ i, i < n → M 3 i = nI (w i)) (hd : ∀ i, a ≤ i → i < b → 48 ≤ w i ∧ w i ≤ 57) : ∀ (fu j : Nat), a + j ≤ b → b - (a + j) < fu → fX11_begins_L149 k fu M (nI (t_nm w a j)) (nI (a + j)) = k M (nI (t_nm w a (b - a))) := by
  intro fu
  induction fu with
  | zero => intro j _ h; omega
  | succ fu ih =>
    intro j hj hf
    rw [fX11_begins_L149, h6]
    by_cases q : a + j = b
    · rw [if_pos (by rw [q]; exact Int32.le_refl _), show b - a = j by omega]
    · rw [if_neg (u_lie (by omega) (by omega)), u_g (by omega) (by omega), u_c (by omega), ht _ (by omega), t_nms (hd _ (by omega) (by omega)).1, x_lb, x_lb, u_a1]
      exact ih (j + 1) (by omega) (by omega)
/-- the names of a row -/
def t_nam (c b : Nat) : Bool := (c == 0 && (b == 103 || b == 112 || b == 97 || b == 107 || b == 121)) || (c == 1 && (b == 105 || b == 110 || b == 119 || b == 100 || b == 115 || b == 121)) || (c == 2 && (b == 117 || b == 121))
theorem t_nam.L {c b : Nat} (hc : c < 3) (h : t_nam c b = true) : z_L c b ∧ 97 ≤ b ∧ b ≤ 122 := by
  rcases (show c = 0 ∨ c = 1 ∨ c = 2 by omega) with rfl | rfl | rfl
  · simp [t_nam] at h
    refine ⟨?_, by omega, by omega⟩
    show r_l0 b
    unfold r_l0
    omega
  · simp [t_nam] at h
    refine ⟨?_, by omega, by omega⟩
    show r_l1 b
    unfold r_l1
    omega
  · simp [t_nam] at h
    refine ⟨?_, by omega, by omega⟩
    show r_l2 b
    unfold r_l2
    omega
theorem c_nam : ∀ c, c < 3 → ∀ b, b < 256 → (xs_ix (xs_nm (nI c)) (((nI b).toUInt32 % 65536).toInt32) < 0 ↔ t_nam c b = false) := by decide +kernel
theorem p_nam {M : xM} {c b : Nat} (hc : c < 3) (hb : b ≤ 255) (h : M 0 11 = nI c) : fX11_isName M (nI b) = some ((if t_nam c b = true then 1 else 0), M) := by
  unfold fX11_isName
  have e : ∀ k, k ≤ 255 → (nI b = nI k) = (b = k) := fun k hk => l_eqn (by omega) (by omega)
  have f : ∀ z : Int32, ∀ k, k ≤ 255 → z = nI k → (nI b = z) = (b = k) := fun z k hk hz => by rw [hz]; exact e k hk
  simp only [f 121 121 (by decide) rfl, f 103 103 (by decide) rfl, f 112 112 (by decide) rfl, f 97 97 (by decide) rfl, f 107 107 (by decide) rfl, f 105 105 (by decide) rfl, f 110 110 (by decide) rfl, f 119 119 (by decide) rfl, f 100 100 (by decide) rfl, f 115 115 (by decide) rfl, f 117 117 (by decide) rfl, h, kn0_eq (show c < 2 ^ 31 by omega), kn1_eq (show c < 2 ^ 31 by omega), x_lb]
  rcases (show c = 0 ∨ c = 1 ∨ c = 2 by omega) with rfl | rfl | rfl
  · simp only [t_nam]
    grind
  · simp only [t_nam]
    grind
  · simp only [t_nam]
    grind
theorem p_isSign {M : xM} {n a k : Nat} {w : Nat → Nat} (hn : n ≤ 120) (hw : ∀ i, w i ≤ 255) (hk : k ≤ 255) (ha : a < n) (h5 : M 0 5 = nI a) (h8 : M 0 8 = nI (t_s w n a)) (ht : ∀ i, i < n → M 3 i = nI (w i)) : fX11_isSign M (nI k) = some ((if t_so (w a) = 3 ∧ w a = k then 1 else 0), M) := by
  have hs : t_s w n a = t_so (w a) := by unfold t_s; rw [if_neg (by omega)]
  have := t_so.le (w a)
  have := hw a
  unfold fX11_isSign
  rw [h8, hs, h5, x_lb]
  simp (disch := omega) only [kn3_eq, u_g, u_c, ht a ha, l_eqn]
  by_cases q1 : t_so (w a) = 3
  · by_cases q2 : w a = k
    · rw [if_pos q1, if_pos q2, if_pos ⟨q1, q2⟩]
    · rw [if_pos q1, if_neg q2, if_neg (fun z => q2 z.2)]
  · rw [if_neg q1, if_neg (fun z => q1 z.1)]
/-- the code of a sign; 0: none -/
def z_sc (b : Nat) : Nat := if b = 38 then 20 else if b = 42 then 50 else if b = 43 then 40 else if b = 45 then 41 else if b = 47 then 51 else if b = 60 then 30 else if b = 61 then 31 else if b = 62 then 32 else if b = 124 then 10 else 0
theorem z_sc.ok : ∀ b, b < 256 → (z_sc b = 0 ∨ (z_ok (z_sc b) ∧ 10 ≤ z_sc b ∧ z_hc (z_sc b) = b ∧ t_so b = 3 ∧ b ≠ 41)) ∧ (z_sc b = 0 ∨ t_so b = 3) := by
  have : ∀ b, b < 256 → (z_sc b = 0 ∨ ((z_sc b = 1 ∨ z_sc b = 3 ∨ z_sc b = 10 ∨ z_sc b = 20 ∨ z_sc b = 30 ∨ z_sc b = 31 ∨ z_sc b = 32 ∨ z_sc b = 40 ∨ z_sc b = 41 ∨ z_sc b = 50 ∨ z_sc b = 51) ∧ 10 ≤ z_sc b ∧ z_hc (z_sc b) = b ∧ t_so b = 3 ∧ b ≠ 41)) ∧ (z_sc b = 0 ∨ t_so b = 3) := by decide +kernel
  exact this
theorem c_ttb (C : xM) {b : Nat} (hb : b ≤ 255) : fX6_tightnessOf C (nI b) = some (nI (z_sc b / 10), C) := by
  have key : ∀ b, b < 256 → (fun z : Int32 => if z = 38 then (2 : Int32) else if z = 42 then 5 else if z = 43 then 4 else if z = 45 then 4 else if z = 47 then 5 else if z = 60 then 3 else if z = 61 then 3 else if z = 62 then 3 else if z = 124 then 1 else 0) (nI b) = nI (z_sc b / 10) := by decide +kernel
  rw [← key b (by omega)]
  unfold fX6_tightnessOf
  simp only [apply_ite (fun v : Int32 => some (v, C))]
theorem p_sign {M : xM} {n a : Nat} {w : Nat → Nat} (hn : n ≤ 120) (hw : ∀ i, w i ≤ 255) (ha : a < n) (h5 : M 0 5 = nI a) (h8 : M 0 8 = nI (t_s w n a)) (ht : ∀ i, i < n → M 3 i = nI (w i)) : fX11_signHere M = some (nI (z_sc (w a)), M) := by
  have hs : t_s w n a = t_so (w a) := by unfold t_s; rw [if_neg (by omega)]
  have := t_so.le (w a)
  have h255 := hw a
  unfold fX11_signHere
  rw [h8, hs, h5]
  have key : ∀ b, b < 256 → (fun z : Int32 => if z = 38 then (20 : Int32) else if z = 42 then 50 else if z = 43 then 40 else if z = 45 then 41 else if z = 47 then 51 else if z = 60 then 30 else if z = 61 then 31 else if z = 62 then 32 else if z = 124 then 10 else 0) (nI b) = nI (z_sc b) := by decide +kernel
  by_cases q1 : t_so (w a) = 3
  · rw [if_pos (by rw [q1]; rfl), u_g (by omega) (by omega), u_c (by omega), ht a ha, x_lb, ← key (w a) (by omega)]
    simp only [apply_ite (fun v : Int32 => some (v, M))]
  · rw [if_neg (by rw [kn3_eq (by omega)]; exact q1)]
    rcases (z_sc.ok (w a) (by omega)).2 with z | z
    · rw [z]; rfl
    · exact absurd z q1
