/-! the stack of held signs, the words so far -/
def z_hc (x : Nat) : Nat := if x = 1 then 40 else if x = 3 then 33 else if x = 10 then 124 else if x = 20 then 38 else if x = 30 then 60 else if x = 31 then 61 else if x = 32 then 62 else if x = 40 then 43 else if x = 41 then 45 else if x = 50 then 42 else 47
def z_ok (x : Nat) : Prop := x = 1 ∨ x = 3 ∨ x = 10 ∨ x = 20 ∨ x = 30 ∨ x = 31 ∨ x = 32 ∨ x = 40 ∨ x = 41 ∨ x = 50 ∨ x = 51
def z_tt (x : Nat) : Nat := if 10 ≤ x then x / 10 else 0
def z_st (C M : xM) : List Nat → Prop
  | [] => True
  | x :: r => z_ok x ∧ C 13 r.length = nI (z_hc x) ∧ M 5 r.length = nI x ∧ z_st C M r
def z_adj : List Nat → Prop
  | [] => True
  | x :: r => (∀ y, r.head? = some y → y = 3 → x = 1 ∨ x = 3) ∧ z_adj r
def z_sg : List Nat → Nat
  | [] => 0
  | x :: r => (if 10 ≤ x then 1 else 0) + z_sg r
def z_ct (k : Nat) : List Nat → Nat
  | [] => 0
  | x :: r => (if x = k then 1 else 0) + z_ct k r
def z_L (c : Nat) : Nat → Prop := if c = 0 then r_l0 else if c = 1 then r_l1 else r_l2
def z_wr (C M : xM) (c e wm d : Nat) : Prop := (∀ k, k < wm → r_wd (z_L c) (M 4 (241 * c + 1 + 2 * k)) (M 4 (241 * c + 1 + (2 * k + 1))) ∧ C 15 (e + k) = r_it (M 4 (241 * c + 1 + 2 * k)) (M 4 (241 * c + 1 + (2 * k + 1)))) ∧ r_dep (fun k => M 4 (241 * c + 1 + k)) wm = some d
def z_pv (C M : xM) (c e : Nat) : Prop := (c = 0 → e = 0) ∧ (1 ≤ c → ∃ n0, C 16 0 = nI n0 ∧ M 4 0 = nI n0 ∧ r_row r_l0 (C 15) 0 (fun k => M 4 (1 + k)) n0 ∧ n0 ≤ 120 ∧ (c = 1 → e = n0) ∧ (2 ≤ c → ∃ n1, C 16 1 = nI (n0 + n1) ∧ M 4 241 = nI n1 ∧ r_row r_l1 (C 15) n0 (fun k => M 4 (242 + k)) n1 ∧ n1 ≤ 120 ∧ e = n0 + n1))
def z_S (C M : xM) (c e wm d tl pr nt : Nat) (L : List Nat) : Prop := ((C 12 2 = nI (e + wm) ∧ M 0 12 = nI wm) ∧ (C 3 6 = nI c ∧ M 0 11 = nI c) ∧ (C 3 3 = nI L.length ∧ M 0 16 = nI L.length) ∧ (C 3 4 = nI pr ∧ M 0 17 = nI pr) ∧ (C 3 5 = nI nt ∧ M 0 18 = nI nt) ∧ (C 12 3 = nI tl ∧ M 0 13 = nI tl)) ∧ (z_st C M L ∧ z_adj L ∧ z_ct 1 L = pr ∧ z_ct 3 L = nt) ∧ z_wr C M c e wm d ∧ (c < 3 ∧ pr ≤ 8 ∧ nt ≤ 8) ∧ z_pv C M c e
theorem z_st.keep {C C' M M' : xM} : ∀ {L : List Nat}, z_st C M L → (∀ j, j < L.length → C' 13 j = C 13 j) → (∀ j, j < L.length → M' 5 j = M 5 j) → z_st C' M' L
  | [], _, _, _ => trivial
  | x :: r, ⟨h1, h2, h3, h4⟩, hc, hm => ⟨h1, (hc _ (Nat.lt_succ_self _)).trans h2, (hm _ (Nat.lt_succ_self _)).trans h3, z_st.keep h4 (fun j hj => hc j (Nat.lt_succ_of_lt hj)) (fun j hj => hm j (Nat.lt_succ_of_lt hj))⟩
theorem z_wr.keep {C C' M M' : xM} {c e wm d : Nat} (h : z_wr C M c e wm d) (hc : ∀ k, k < wm → C' 15 (e + k) = C 15 (e + k)) (hm : ∀ k, k < 2 * wm → M' 4 (241 * c + 1 + k) = M 4 (241 * c + 1 + k)) : z_wr C' M' c e wm d := by
  refine ⟨fun k hk => ?_, ?_⟩
  · rw [hm (2 * k) (by omega), hm (2 * k + 1) (by omega), hc k hk]
    exact h.1 k hk
  · rw [← h.2]
    exact r_dep.cong (fun j hj => hm j hj)
theorem r_row.keepC {L : Nat → Prop} {code code' : Nat → Int32} {e n : Nat} {f : Nat → Int32} (h : r_row L code e f n) (hc : ∀ k, k < n → code' (e + k) = code (e + k)) : r_row L code' e f n := ⟨fun k hk => ⟨(h.1 k hk).1, (hc k hk).trans (h.1 k hk).2⟩, h.2⟩
theorem z_pv.keep {C C' M M' : xM} {c e : Nat} (h : z_pv C M c e) (h16 : ∀ j, j < c → C' 16 j = C 16 j) (hc : ∀ k, k < e → C' 15 k = C 15 k) (hm : ∀ k, k < 241 * c → M' 4 k = M 4 k) : z_pv C' M' c e := by
  refine ⟨h.1, fun h1 => ?_⟩
  obtain ⟨n0, a1, a2, a3, a4, a5, a6⟩ := h.2 h1
  have hn0 : n0 ≤ e := by
    by_cases q : c = 1
    · rw [a5 q]; exact Nat.le_refl _
    · obtain ⟨n1, -, -, -, -, e1⟩ := a6 (by omega)
      omega
  refine ⟨n0, (h16 0 (by omega)).trans a1, (hm 0 (by omega)).trans a2, (a3.keepC (fun k hk => hc _ (by omega))).cong (fun j hj => hm _ (by omega)), a4, a5, fun h2 => ?_⟩
  obtain ⟨n1, b1, b2, b3, b4, b5⟩ := a6 h2
  exact ⟨n1, (h16 1 (by omega)).trans b1, (hm 241 (by omega)).trans b2, (b3.keepC (fun k hk => hc _ (by omega))).cong (fun j hj => hm _ (by omega)), b4, b5⟩
/-- nothing of it has changed -/
theorem z_S.keep {C C' M M' : xM} {c e wm d tl pr nt : Nat} {L : List Nat} (h : z_S C M c e wm d tl pr nt L) (hc : ∀ a b, (a = 3 ∧ b ≠ 7) ∨ a = 12 ∨ a = 13 ∨ a = 15 ∨ a = 16 → C' a b = C a b) (hm : ∀ a b, (a = 0 ∧ (b = 11 ∨ b = 12 ∨ b = 13 ∨ b = 16 ∨ b = 17 ∨ b = 18)) ∨ a = 4 ∨ a = 5 → M' a b = M a b) : z_S C' M' c e wm d tl pr nt L := by
  obtain ⟨⟨⟨a1, a2⟩, ⟨a3, a4⟩, ⟨a5, a6⟩, ⟨a7, a8⟩, ⟨a9, a10⟩, ⟨a11, a12⟩⟩, ⟨b1, b2⟩, b3, b4, b5⟩ := h
  refine ⟨⟨⟨(hc _ _ (by omega)).trans a1, (hm _ _ (by omega)).trans a2⟩, ⟨(hc _ _ (by omega)).trans a3, (hm _ _ (by omega)).trans a4⟩, ⟨(hc _ _ (by omega)).trans a5, (hm _ _ (by omega)).trans a6⟩, ⟨(hc _ _ (by omega)).trans a7, (hm _ _ (by omega)).trans a8⟩, ⟨(hc _ _ (by omega)).trans a9, (hm _ _ (by omega)).trans a10⟩, ⟨(hc _ _ (by omega)).trans a11, (hm _ _ (by omega)).trans a12⟩⟩, ⟨b1.keep (fun j _ => hc _ _ (by omega)) (fun j _ => hm _ _ (by omega)), b2⟩, b3.keep (fun k _ => hc _ _ (by omega)) (fun k _ => hm _ _ (by omega)), b4, b5.keep (fun j _ => hc _ _ (by omega)) (fun k _ => hc _ _ (by omega)) (fun k _ => hm _ _ (by omega))⟩
theorem c_write {C : xM} {z : Nat} (v : Int32) (h : C 12 2 = nI z) (hz : z < 120) : fX3_write C v = some (x_up (x_up C 15 z v) 12 2 (nI (z + 1))) := by
  unfold fX3_write
  rw [h, if_pos (by rw [kn120_lt (by omega)]; exact hz), u_g hz (by decide), u_c (by omega), x_lb, x_lb]
  rw [show x_up C 15 z v 12 2 = nI z by simp (disch := omega) only [x_uo, x_uj, x_us]; exact h, u_a1]
theorem p_emit {M : xM} {c wm : Nat} (a b : Int32) (hc : M 0 11 = nI c) (hc3 : c < 3) (hw : M 0 12 = nI wm) (hw2 : wm < 120) : fX11_emit M a b = some (x_up (x_up (x_up M 4 (241 * c + 1 + 2 * wm) a) 4 (241 * c + 1 + (2 * wm + 1)) b) 0 12 (nI (wm + 1))) := by
  unfold fX11_emit
  have e1 : (241 : Int32) * nI c + 1 + 2 * nI wm = nI (241 * c + 1 + 2 * wm) := by
    rw [show (241 : Int32) = nI 241 from rfl, show (2 : Int32) = nI 2 from rfl, pk_mul, pk_mul, u_a1, nI_add]
  rw [hc, hw, e1, x_lb, u_g (by omega) (by omega), u_c (by omega), x_lb, u_a1, u_g (by omega) (by omega), u_c (by omega), x_lb, x_lb]
  rw [show x_up (x_up M 4 (241 * c + 1 + 2 * wm) a) 4 (241 * c + 1 + 2 * wm + 1) b 0 12 = nI wm by simp (disch := omega) only [x_uo, x_uj, x_us]; exact hw, u_a1]
  rfl
/-- one word more -/
theorem z_wr.snoc {C M : xM} {c e wm d d' : Nat} {W V : Int32} (h : z_wr C M c e wm d) (hw : r_wd (z_L c) W V) (hd : (if W = 1 ∨ W = 2 then some (d + 1) else if W = 3 then (if 1 ≤ d then some d else none) else (if 2 ≤ d then some (d - 1) else none)) = some d') : z_wr (x_up C 15 (e + wm) (r_it W V)) (x_up (x_up M 4 (241 * c + 1 + 2 * wm) W) 4 (241 * c + 1 + (2 * wm + 1)) V) c e (wm + 1) d' := by
  have k0 : z_wr (x_up C 15 (e + wm) (r_it W V)) (x_up (x_up M 4 (241 * c + 1 + 2 * wm) W) 4 (241 * c + 1 + (2 * wm + 1)) V) c e wm d := h.keep (fun k hk => by simp (disch := omega) only [x_uo, x_uj, x_us]) (fun k hk => by simp (disch := omega) only [x_uo, x_uj, x_us])
  have e1 : x_up (x_up M 4 (241 * c + 1 + 2 * wm) W) 4 (241 * c + 1 + (2 * wm + 1)) V 4 (241 * c + 1 + 2 * wm) = W := by simp (disch := omega) only [x_uo, x_uj, x_us]
  have e2 : x_up (x_up M 4 (241 * c + 1 + 2 * wm) W) 4 (241 * c + 1 + (2 * wm + 1)) V 4 (241 * c + 1 + (2 * wm + 1)) = V := by simp (disch := omega) only [x_uo, x_uj, x_us]
  refine ⟨fun k hk => ?_, ?_⟩
  · by_cases q : k = wm
    · subst q
      rw [e1, e2]
      exact ⟨hw, by simp (disch := omega) only [x_uo, x_uj, x_us]⟩
    · exact k0.1 k (by omega)
  · rw [r_dep, k0.2]
    simp only [e1]
    exact hd
/-- a word is written on both sides; the rest as it was -/
theorem z_S.wordE {C M : xM} {c e wm d d' tl pr nt : Nat} {L : List Nat} {W V : Int32} (h : z_S C M c e wm d tl pr nt L) (hw : r_wd (z_L c) W V) (hd : (if W = 1 ∨ W = 2 then some (d + 1) else if W = 3 then (if 1 ≤ d then some d else none) else (if 2 ≤ d then some (d - 1) else none)) = some d') : z_S (x_up (x_up C 15 (e + wm) (r_it W V)) 12 2 (nI (e + wm + 1))) (x_up (x_up (x_up M 4 (241 * c + 1 + 2 * wm) W) 4 (241 * c + 1 + (2 * wm + 1)) V) 0 12 (nI (wm + 1))) c e (wm + 1) d' tl pr nt L := by
  obtain ⟨⟨⟨a1, a2⟩, ⟨a3, a4⟩, ⟨a5, a6⟩, ⟨a7, a8⟩, ⟨a9, a10⟩, ⟨a11, a12⟩⟩, ⟨b1, b2⟩, b3, b4, b5⟩ := id h
  have fc : ∀ a b, ¬ (a = 15 ∨ (a = 12 ∧ b = 2)) → x_up (x_up C 15 (e + wm) (r_it W V)) 12 2 (nI (e + wm + 1)) a b = C a b := fun a b q => by
    by_cases z : a = 12
    · subst z; simp (disch := omega) only [x_uo, x_uj, x_us]
    · simp (disch := omega) only [x_uo, x_uj, x_us]
  have fm : ∀ a b, ¬ (a = 4 ∨ (a = 0 ∧ b = 12)) → x_up (x_up (x_up M 4 (241 * c + 1 + 2 * wm) W) 4 (241 * c + 1 + (2 * wm + 1)) V) 0 12 (nI (wm + 1)) a b = M a b := fun a b q => by
    by_cases z : a = 0
    · subst z; simp (disch := omega) only [x_uo, x_uj, x_us]
    · simp (disch := omega) only [x_uo, x_uj, x_us]
  refine ⟨⟨⟨by simp (disch := omega) only [x_uo, x_uj, x_us]; rfl, by simp (disch := omega) only [x_uo, x_uj, x_us]⟩, ⟨(fc _ _ (by omega)).trans a3, (fm _ _ (by omega)).trans a4⟩, ⟨(fc _ _ (by omega)).trans a5, (fm _ _ (by omega)).trans a6⟩, ⟨(fc _ _ (by omega)).trans a7, (fm _ _ (by omega)).trans a8⟩, ⟨(fc _ _ (by omega)).trans a9, (fm _ _ (by omega)).trans a10⟩, ⟨(fc _ _ (by omega)).trans a11, (fm _ _ (by omega)).trans a12⟩⟩, ⟨b1.keep (fun j _ => fc _ _ (by omega)) (fun j _ => fm _ _ (by omega)), b2⟩, ?_, b4, b5.keep (fun j _ => fc _ _ (by omega)) (fun k hk => by simp (disch := omega) only [x_uo, x_uj, x_us]) (fun k hk => by simp (disch := omega) only [x_uo, x_uj, x_us])⟩
  exact (b3.snoc hw hd).keep (fun k _ => by simp (disch := omega) only [x_uo, x_uj, x_us]) (fun k _ => by simp (disch := omega) only [x_uo, x_uj, x_us])
def z_tp0 : List Nat → Int32
  | [] => 0
  | x :: _ => nI (z_hc x)
theorem c_top {C M : xM} {L : List Nat} (h3 : C 3 3 = nI L.length) (hl : L.length ≤ 120) (h : z_st C M L) : fX6_topHeld C = some (z_tp0 L, C) := by
  unfold fX6_topHeld
  rw [h3]
  cases L with
  | nil => rfl
  | cons x r =>
    have hl' : r.length < 120 := hl
    show (if nI (r.length + 1) ≤ 0 then _ else _) = _
    rw [if_neg (by rw [kn0_le (by omega)]; omega)]
    show x_g (nI (r.length + 1) - 1) 120 (some (C 13 (nI (r.length + 1) - 1).toNatClampNeg, C)) = _
    rw [u_m1, u_g hl' (by decide), u_c (by omega), h.2.1]
    rfl
theorem c_tt {C : xM} {x : Nat} (h : z_ok x) : fX6_tightnessOf C (nI (z_hc x)) = some (nI (z_tt x), C) := by
  rcases h with rfl | rfl | rfl | rfl | rfl | rfl | rfl | rfl | rfl | rfl | rfl <;> rfl
theorem c_tt0 {C : xM} : fX6_tightnessOf C 0 = some (0, C) := rfl
theorem z_ok.hc {x : Nat} (h : z_ok x) : z_hc x ≤ 124 ∧ (z_hc x = 33 ↔ x = 3) ∧ (z_hc x = 40 ↔ x = 1) ∧ x ≤ 51 := by
  rcases h with rfl | rfl | rfl | rfl | rfl | rfl | rfl | rfl | rfl | rfl | rfl <;> decide
theorem z_it {x : Nat} (h : z_ok x) (h10 : 10 ≤ x) : r_it (nI x) 0 = -(nI (z_hc x)) ∧ (∀ L : Nat → Prop, r_wd L (nI x) 0) ∧ ¬ (nI x = 1 ∨ nI x = 2) ∧ ¬ nI x = 3 := by
  rcases h with rfl | rfl | rfl | rfl | rfl | rfl | rfl | rfl | rfl | rfl | rfl
  · omega
  · omega
  all_goals exact ⟨by decide, fun L => Or.inr (Or.inr ⟨by decide, rfl⟩), by decide, by decide⟩
theorem z_sg.le : ∀ L : List Nat, z_sg L ≤ L.length
  | [] => Nat.le_refl _
  | x :: r => by
    have := z_sg.le r
    show (if 10 ≤ x then 1 else 0) + z_sg r ≤ r.length + 1
    split <;> omega
/-- the top is taken off on both sides: memory only -/
theorem z_S.pop {C M : xM} {c e wm d tl pr nt x : Nat} {r : List Nat} (h : z_S C M c e wm d tl pr nt (x :: r)) : (C 3 3 - 1 = nI r.length ∧ M 0 16 - 1 = nI r.length) ∧ z_ok x ∧ C 13 r.length = nI (z_hc x) ∧ M 5 r.length = nI x := by
  obtain ⟨⟨-, -, ⟨a5, a6⟩, -⟩, ⟨b1, -⟩, -⟩ := h
  refine ⟨⟨?_, ?_⟩, b1.1, b1.2.1, b1.2.2.1⟩
  · rw [a5]; exact u_m1 _
  · rw [a6]; exact u_m1 _
theorem z_S.pop' {C C' M M' : xM} {c e wm d tl pr pr' nt nt' x : Nat} {r : List Nat} (h : z_S C M c e wm d tl pr nt (x :: r)) (hc : ∀ a b, (a = 3 ∧ b ≠ 7 ∧ b ≠ 3 ∧ b ≠ 4 ∧ b ≠ 5) ∨ a = 12 ∨ a = 13 ∨ a = 15 ∨ a = 16 → C' a b = C a b) (hm : ∀ a b, (a = 0 ∧ (b = 11 ∨ b = 12 ∨ b = 13)) ∨ a = 4 ∨ a = 5 → M' a b = M a b) (c3 : C' 3 3 = nI r.length) (m16 : M' 0 16 = nI r.length) (c4 : C' 3 4 = nI pr') (m17 : M' 0 17 = nI pr') (c5 : C' 3 5 = nI nt') (m18 : M' 0 18 = nI nt') (hp : z_ct 1 r = pr') (hn : z_ct 3 r = nt') : z_S C' M' c e wm d tl pr' nt' r := by
  obtain ⟨⟨⟨a1, a2⟩, ⟨a3, a4⟩, ⟨a5, a6⟩, ⟨a7, a8⟩, ⟨a9, a10⟩, ⟨a11, a12⟩⟩, ⟨b1, b2, b6, b7⟩, b3, b4, b5⟩ := h
  have hpr : z_ct 1 (x :: r) = (if x = 1 then 1 else 0) + z_ct 1 r := rfl
  have hnt : z_ct 3 (x :: r) = (if x = 3 then 1 else 0) + z_ct 3 r := rfl
  refine ⟨⟨⟨(hc _ _ (by omega)).trans a1, (hm _ _ (by omega)).trans a2⟩, ⟨(hc _ _ (by omega)).trans a3, (hm _ _ (by omega)).trans a4⟩, ⟨c3, m16⟩, ⟨c4, m17⟩, ⟨c5, m18⟩, ⟨(hc _ _ (by omega)).trans a11, (hm _ _ (by omega)).trans a12⟩⟩, ⟨b1.2.2.2.keep (fun j _ => hc _ _ (by omega)) (fun j _ => hm _ _ (by omega)), b2.2, hp, hn⟩, b3.keep (fun k _ => hc _ _ (by omega)) (fun k _ => hm _ _ (by omega)), ⟨b4.1, by omega, by omega⟩, b5.keep (fun j _ => hc _ _ (by omega)) (fun k _ => hc _ _ (by omega)) (fun k _ => hm _ _ (by omega))⟩
