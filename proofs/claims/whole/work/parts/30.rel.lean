/-! the pure layer: the relation between the class's memory C and the reference's memory M -/
theorem x_up_at (M : xM) (k j : Nat) (v : Int32) (a b : Nat) : x_up M k j v a b = if a = k then (if b = j then v else M a b) else M a b := by
  unfold x_up upd
  split
  · rfl
  · rfl
theorem u_lit (n : Nat) : (OfNat.ofNat n : Int32) = nI n := rfl
theorem u_3 (i : Nat) : (30 : Int32) + 3 * nI i = nI (30 + 3 * i) := by
  show nI 30 + nI 3 * nI i = _
  rw [pk_mul, nI_add]
theorem u_6 (i : Nat) : (66 : Int32) + 6 * nI i = nI (66 + 6 * i) := by
  show nI 66 + nI 6 * nI i = _
  rw [pk_mul, nI_add]
theorem u_5 (i : Nat) : (642 : Int32) + 5 * nI i = nI (642 + 5 * i) := by
  show nI 642 + nI 5 * nI i = _
  rw [pk_mul, nI_add]
theorem u_10 (i : Nat) : (792 : Int32) + 10 * nI i = nI (792 + 10 * i) := by
  show nI 792 + nI 10 * nI i = _
  rw [pk_mul, nI_add]
theorem u_1 (i : Nat) : (1 : Int32) + nI i = nI (1 + i) := nI_add 1 i
theorem u_24 (i : Nat) : (24 : Int32) + nI i = nI (24 + i) := nI_add 24 i
theorem u_a1 (i : Nat) : nI i + 1 = nI (i + 1) := nI_add i 1
theorem u_a2 (i : Nat) : nI i + 2 = nI (i + 2) := nI_add i 2
theorem u_a3 (i : Nat) : nI i + 3 = nI (i + 3) := nI_add i 3
theorem u_a4 (i : Nat) : nI i + 4 = nI (i + 4) := nI_add i 4
theorem u_a5 (i : Nat) : nI i + 5 = nI (i + 5) := nI_add i 5
theorem u_a6 (i : Nat) : nI i + 6 = nI (i + 6) := nI_add i 6
theorem u_a7 (i : Nat) : nI i + 7 = nI (i + 7) := nI_add i 7
theorem u_a8 (i : Nat) : nI i + 8 = nI (i + 8) := nI_add i 8
theorem u_g {β : Type} {m n : Nat} {k : Option β} (h : m < n) (hn : n < 2 ^ 31) : x_g (nI m) n k = k := if_neg (vp_in_nI h hn)
theorem u_c {n : Nat} (h : n < 2 ^ 31) : (nI n).toNatClampNeg = n := nI_clamp h
theorem u_m1 (n : Nat) : nI (n + 1) - 1 = nI n := nI_pred n
/-- an int in a range -/
theorem u_of {x : Int32} {n : Nat} (h0 : 0 ≤ x) (h1 : x ≤ nI n) (hn : n < 2 ^ 31) : ∃ j, j ≤ n ∧ x = nI j := nI_of2 (M := nI n) (nI_toInt hn) (Int32.not_lt.mpr h0) h1
theorem p_in (M : xM) (a b c : Int32) : fX11_in M a b c = some ((if b ≤ a ∧ a ≤ c then 1 else 0), M) := by
  unfold fX11_in x_l
  grind
theorem c_in (M : xM) (a b c : Int32) : fX10_isWithin M a b c = some ((if b ≤ a ∧ a ≤ c then 1 else 0), M) := by
  unfold fX10_isWithin x_l
  grind
theorem p_less (M : xM) (a b : Int32) : fX11_less M a b = some ((if b ≤ a then b else a), M) := by
  unfold fX11_less
  split <;> rfl
theorem p_more (M : xM) (a b : Int32) : fX11_more M a b = some ((if a ≤ b then b else a), M) := by
  unfold fX11_more
  split <;> rfl
theorem p_size (M : xM) (a : Int32) : fX11_size M a = some ((if 0 ≤ a then a else -a), M) := by
  unfold fX11_size
  split <;> rfl
theorem p_orNone (M : xM) (a : Int32) : fX11_orNone M a = some ((if a = -1 then -1000000005 else a), M) := by
  unfold fX11_orNone
  split <;> rfl
theorem c_oneIf (M : xM) (a : Int32) : fX10_oneIf M a = some ((if a = 0 then 0 else 1), M) := by
  unfold fX10_oneIf
  split <;> rfl
/-- a test's answer, asked for -/
theorem x_b_some {β : Type} (v : Int32) (N : xM) (k : Int32 → xM → Option β) : x_b (some (v, N)) k = k v N := rfl
theorem x_v_some {β : Type} (N : xM) (k : xM → Option β) : x_v (some N) k = k N := rfl
theorem x_z_if {β : Type} (c : Prop) [Decidable c] (k : Option β) : x_z (if c then 1 else 0) k = k := by
  unfold x_z
  split <;> simp
theorem u_if0 (c : Prop) [Decidable c] : ((if c then 1 else 0 : Int32) = 0) = ¬ c := by
  split <;> simp_all
theorem p_isPerson (M : xM) (a : Int32) : fX11_isPerson M a = some ((if 0 ≤ a ∧ a ≤ M 1 17 - 1 then 1 else 0), M) := by
  unfold fX11_isPerson
  rw [p_in, x_b_some, x_z_if]
theorem p_isDeed (M : xM) (a : Int32) : fX11_isDeed M a = some ((if 0 ≤ a ∧ a ≤ M 1 19 - 1 then 1 else 0), M) := by
  unfold fX11_isDeed
  rw [p_in, x_b_some, x_z_if]
theorem p_isJudgment (M : xM) (a : Int32) : fX11_isJudgment M a = some ((if 0 ≤ a ∧ a ≤ M 1 20 - 1 then 1 else 0), M) := by
  unfold fX11_isJudgment
  rw [p_in, x_b_some, x_z_if]
theorem c_hasPerson (M : xM) (a : Int32) : fX8_hasPerson M a = some ((if 0 ≤ a ∧ a ≤ M 1 1 - 1 then 1 else 0), M) := by
  unfold fX8_hasPerson
  rw [c_in, x_b_some, x_z_if]
theorem c_hasDeed (M : xM) (a : Int32) : fX8_hasDeed M a = some ((if 0 ≤ a ∧ a ≤ M 1 3 - 1 then 1 else 0), M) := by
  unfold fX8_hasDeed
  rw [c_in, x_b_some, x_z_if]
theorem c_hasJudgment (M : xM) (a : Int32) : fX8_hasJudgment M a = some ((if 0 ≤ a ∧ a ≤ M 1 4 - 1 then 1 else 0), M) := by
  unfold fX8_hasJudgment
  rw [c_in, x_b_some, x_z_if]
/-- 0 .. n - 1 -/
theorem u_has {a : Int32} {n : Nat} (hn : n < 2 ^ 31) : (0 ≤ a ∧ a ≤ nI n - 1) ↔ ∃ i, i < n ∧ a = nI i := by
  constructor
  · intro h
    cases n with
    | zero =>
      have e : nI 0 - 1 = (-1 : Int32) := rfl
      rw [e] at h
      have := Int32.le_trans h.1 h.2
      exact absurd this (by decide)
    | succ n =>
      rw [u_m1] at h
      obtain ⟨j, hj, e⟩ := u_of h.1 h.2 (by omega)
      exact ⟨j, by omega, e⟩
  · rintro ⟨i, hi, rfl⟩
    cases n with
    | zero => omega
    | succ n =>
      rw [u_m1]
      exact ⟨nI_pos' (by omega), nI_le (by omega) (by omega)⟩
