/-- a state's rows: the class's objects from cell o, b and the reference's row s -/
def r_N (o : Nat) (C : xM) (s : Nat → Int32) (nP nF nD nJ t : Nat) : Prop := (C o 0 = nI t ∧ C o 1 = nI nP ∧ C o 2 = nI nF ∧ C o 3 = nI nD ∧ C o 4 = nI nJ) ∧ (s 0 = nI t ∧ s 17 = nI nP ∧ s 18 = nI nF ∧ s 19 = nI nD ∧ s 20 = nI nJ) ∧ (nP ≤ 12 ∧ nF ≤ 96 ∧ nD ≤ 30 ∧ nJ ≤ 16 ∧ t ≤ 3000)
def r_P (b : Nat) (C : xM) (s : Nat → Int32) (n : Nat) : Prop := ∀ i, i < n → ∀ j, j < 3 → C (31 + i + b) j = s (30 + 3 * i + j)
def r_F (b : Nat) (C : xM) (s : Nat → Int32) (n : Nat) : Prop := ∀ i, i < n → ∀ j, j < 6 → C (43 + i + b) j = s (66 + 6 * i + j)
def r_D (b : Nat) (C : xM) (s : Nat → Int32) (n : Nat) : Prop := ∀ i, i < n → ∀ j, j < 5 → C (139 + i + b) j = s (642 + 5 * i + j)
def r_J (b : Nat) (C : xM) (s : Nat → Int32) (n : Nat) : Prop := ∀ i, i < n → (∀ j, j < 8 → C (169 + i + b) j = s (792 + 10 * i + j)) ∧ C (169 + i + b) 8 = (if s (792 + 10 * i + 8) = 1 ∨ s (792 + 10 * i + 8) = 3 then 1 else 0) ∧ C (169 + i + b) 9 = (if s (792 + 10 * i + 8) = 2 ∨ s (792 + 10 * i + 8) = 3 then 1 else 0)
def r_U (b : Nat) (C : xM) (s : Nat → Int32) : Prop := ∀ j, j < 16 → C (23 + b) j = s (1 + j)
def r_L (b : Nat) (C : xM) (s : Nat → Int32) : Prop := ∀ j, j < 4 → C (24 + b) j = s (24 + j)
def r_St (o b : Nat) (C : xM) (s : Nat → Int32) (nP nF nD nJ t : Nat) : Prop := r_N o C s nP nF nD nJ t ∧ r_P b C s nP ∧ r_F b C s nF ∧ r_D b C s nD ∧ r_J b C s nJ ∧ r_U b C s ∧ r_L b C s
theorem r_P.keep {b n : Nat} {C C' : xM} {s s' : Nat → Int32} (h : r_P b C s n) (hc : ∀ i j, i < n → j < 3 → C' (31 + i + b) j = C (31 + i + b) j) (hs : ∀ i j, i < n → j < 3 → s' (30 + 3 * i + j) = s (30 + 3 * i + j)) : r_P b C' s' n := fun i hi j hj => by rw [hc i j hi hj, hs i j hi hj]; exact h i hi j hj
theorem r_F.keep {b n : Nat} {C C' : xM} {s s' : Nat → Int32} (h : r_F b C s n) (hc : ∀ i j, i < n → j < 6 → C' (43 + i + b) j = C (43 + i + b) j) (hs : ∀ i j, i < n → j < 6 → s' (66 + 6 * i + j) = s (66 + 6 * i + j)) : r_F b C' s' n := fun i hi j hj => by rw [hc i j hi hj, hs i j hi hj]; exact h i hi j hj
theorem r_D.keep {b n : Nat} {C C' : xM} {s s' : Nat → Int32} (h : r_D b C s n) (hc : ∀ i j, i < n → j < 5 → C' (139 + i + b) j = C (139 + i + b) j) (hs : ∀ i j, i < n → j < 5 → s' (642 + 5 * i + j) = s (642 + 5 * i + j)) : r_D b C' s' n := fun i hi j hj => by rw [hc i j hi hj, hs i j hi hj]; exact h i hi j hj
theorem r_J.keep {b n : Nat} {C C' : xM} {s s' : Nat → Int32} (h : r_J b C s n) (hc : ∀ i j, i < n → j < 10 → C' (169 + i + b) j = C (169 + i + b) j) (hs : ∀ i j, i < n → j < 10 → s' (792 + 10 * i + j) = s (792 + 10 * i + j)) : r_J b C' s' n := fun i hi => by
  obtain ⟨h1, h2, h3⟩ := h i hi
  exact ⟨fun j hj => by rw [hc i j hi (by omega), hs i j hi (by omega)]; exact h1 j hj, by rw [hc i 8 hi (by omega), hs i 8 hi (by omega)]; exact h2, by rw [hc i 9 hi (by omega), hs i 8 hi (by omega)]; exact h3⟩
theorem r_U.keep {b : Nat} {C C' : xM} {s s' : Nat → Int32} (h : r_U b C s) (hc : ∀ j, j < 16 → C' (23 + b) j = C (23 + b) j) (hs : ∀ j, j < 16 → s' (1 + j) = s (1 + j)) : r_U b C' s' := fun j hj => by rw [hc j hj, hs j hj]; exact h j hj
theorem r_L.keep {b : Nat} {C C' : xM} {s s' : Nat → Int32} (h : r_L b C s) (hc : ∀ j, j < 4 → C' (24 + b) j = C (24 + b) j) (hs : ∀ j, j < 4 → s' (24 + j) = s (24 + j)) : r_L b C' s' := fun j hj => by rw [hc j hj, hs j hj]; exact h j hj
/-- what the row s always keeps -/
def i_P (s : Nat → Int32) (nP : Nat) : Prop := ∀ i, i < nP → (∃ k, k ≤ 3 ∧ s (30 + 3 * i) = nI k) ∧ (s (30 + 3 * i + 1) = -1 ∨ ∃ q, q < nP ∧ q ≠ i ∧ s (30 + 3 * i + 1) = nI q ∧ s (30 + 3 * q + 1) = nI i) ∧ ∃ c, c ≤ 9999 ∧ s (30 + 3 * i + 2) = nI c
def i_F (s : Nat → Int32) (nF : Nat) : Prop := ∀ i, i < nF → ∃ v, v ≤ 99999 ∧ s (66 + 6 * i + 3) = nI v
def i_D (s : Nat → Int32) (nP nD nJ : Nat) : Prop := ∀ i, i < nD → (∃ k, k ≤ 3 ∧ s (642 + 5 * i) = nI k) ∧ (∃ q, q < nP ∧ s (642 + 5 * i + 1) = nI q) ∧ (s (642 + 5 * i + 4) = -1 ∨ ∃ j, j < nJ ∧ s (642 + 5 * i + 4) = nI j)
def i_J (s : Nat → Int32) (nP nJ t : Nat) : Prop := (∀ i, i < nJ → (∃ q, q < nP ∧ s (792 + 10 * i) = nI q) ∧ (∃ d, d ≤ t ∧ s (792 + 10 * i + 1) = nI d) ∧ (∃ d, d ≤ 9999 ∧ s (792 + 10 * i + 2) = nI d) ∧ (∃ d, d ≤ 9999 ∧ s (792 + 10 * i + 3) = nI d) ∧ (∃ d, d ≤ 99980001 ∧ s (792 + 10 * i + 4) = nI d) ∧ (∃ d, d ≤ 3 ∧ s (792 + 10 * i + 5) = nI d) ∧ (∃ d, d ≤ 9999 ∧ s (792 + 10 * i + 7) = nI d) ∧ ∃ d, d ≤ 3 ∧ s (792 + 10 * i + 8) = nI d) ∧
  ∀ i j, i < j → j < nJ → s (792 + 10 * i + 1) ≤ s (792 + 10 * j + 1)
def i_R (s : Nat → Int32) : Prop := (∀ j, j < 16 → ∃ v, nI v ≤ x_most j ∧ v ≤ 99999 ∧ s (1 + j) = nI v) ∧ ∀ j, j < 4 → ∃ v, v ≤ 9999 ∧ s (24 + j) = nI v
def i_St (s : Nat → Int32) (nP nF nD nJ t : Nat) : Prop := i_P s nP ∧ i_F s nF ∧ i_D s nP nD nJ ∧ i_J s nP nJ t ∧ i_R s
/-! the law: the class's items and the reference's words; which rows are worked out -/
/-- an item of the class for a word of the reference -/
def r_it (w v : Int32) : Int32 := if w = 1 then v else if w = 2 then -v else if w = 3 then -33 else if w = 10 then -124 else if w = 20 then -38 else if w = 30 then -60 else if w = 31 then -61 else if w = 32 then -62 else if w = 40 then -43 else if w = 41 then -45 else if w = 50 then -42 else -47
/-- the letters of the three rows -/
def r_l0 (n : Nat) : Prop := n = 103 ∨ n = 112 ∨ n = 97 ∨ n = 107 ∨ n = 121
def r_l1 (n : Nat) : Prop := n = 105 ∨ n = 110 ∨ n = 119 ∨ n = 100 ∨ n = 115 ∨ n = 121
def r_l2 (n : Nat) : Prop := n = 117 ∨ n = 121
/-- the words that there are; L: the letters that a row may have -/
def r_wd (L : Nat → Prop) (w v : Int32) : Prop := (w = 1 ∧ ∃ n, n ≤ 99999 ∧ v = nI n) ∨ (w = 2 ∧ ∃ n, 97 ≤ n ∧ n ≤ 122 ∧ L n ∧ v = nI n) ∨ ((w = 3 ∨ w = 10 ∨ w = 20 ∨ w = 30 ∨ w = 31 ∨ w = 32 ∨ w = 40 ∨ w = 41 ∨ w = 50 ∨ w = 51) ∧ v = 0)
/-- how many numbers lie on the pile behind k words; none: one would be wanting -/
def r_dep (f : Nat → Int32) : Nat → Option Nat
  | 0 => some 0
  | k + 1 => match r_dep f k with
    | none => none
    | some d => if f (2 * k) = 1 ∨ f (2 * k) = 2 then some (d + 1) else if f (2 * k) = 3 then (if 1 ≤ d then some d else none) else (if 2 ≤ d then some (d - 1) else none)
/-- one of the three rows of words, at w, of n words; and the items from e on -/
def r_row (L : Nat → Prop) (code : Nat → Int32) (e : Nat) (f : Nat → Int32) (n : Nat) : Prop := (∀ k, k < n → r_wd L (f (2 * k)) (f (2 * k + 1)) ∧ code (e + k) = r_it (f (2 * k)) (f (2 * k + 1))) ∧ r_dep f n = some 1
/-- the three rows: w holds 241 places a row, its number of words first -/
def r_rows (code ends : Nat → Int32) (w : Nat → Int32) : Prop := ∃ n0 n1 n2 : Nat, n0 + n1 + n2 ≤ 120 ∧ w 0 = nI n0 ∧ w 241 = nI n1 ∧ w 482 = nI n2 ∧ ends 0 = nI n0 ∧ ends 1 = nI (n0 + n1) ∧ ends 2 = nI (n0 + n1 + n2) ∧
  r_row r_l0 code 0 (fun k => w (1 + k)) n0 ∧ r_row r_l1 code n0 (fun k => w (242 + k)) n1 ∧ r_row r_l2 code (n0 + n1) (fun k => w (483 + k)) n2
/-- there is no law, or it is the same -/
def r_law (b : Nat) (C : xM) (s : Nat → Int32) : Prop := (s 21 = 0 ∧ C (25 + b) 3 = 0) ∨ (s 21 = 1 ∧ 0 < C (25 + b) 3 ∧ r_rows (C (26 + b)) (C (27 + b)) (fun k => s (952 + k)))
def r_Full (o b : Nat) (C : xM) (s : Nat → Int32) (nP nF nD nJ t : Nat) : Prop := r_St o b C s nP nF nD nJ t ∧ r_law b C s ∧ i_St s nP nF nD nJ t
def r_Im (C M : xM) : Prop := (M 0 2 = 0 ∧ C 0 2 = 0) ∨ (M 0 2 = 1 ∧ C 0 2 = 1 ∧ ∃ nP nF nD nJ t, r_Full 2 166 C (M 2) nP nF nD nJ t)
def r_Tp (C M : xM) : Prop := ∃ n, n ≤ 120 ∧ M 0 4 = nI n ∧ C 11 1 = nI n ∧ ∀ i, i < n → C 14 i = M 3 i ∧ ∃ v, v ≤ 255 ∧ M 3 i = nI v
def r_Wt (C M : xM) : Prop := ∃ n, n ≤ 30 ∧ M 0 27 = nI n ∧ C 0 6 = nI n ∧ ∀ i, i < n → C 5 i = M 12 i
def r_S1 (t : Nat) (C M : xM) : Prop := (M 14 t = -1 ∧ C 7 t = 1) ∨ ∃ n, n ≤ 24 ∧ M 14 t = nI n ∧ C 7 t = 0 ∧ C 8 t = nI n ∧ ∀ i, i < n → C (9 + t) i = M 13 (24 * t + i)
def Rel (C M : xM) : Prop := (∃ nP nF nD nJ t, r_Full 1 0 C (M 1) nP nF nD nJ t) ∧ r_Im C M ∧ r_Tp C M ∧ r_Wt C M ∧ r_S1 0 C M ∧ r_S1 1 C M
/-- what a call may leave otherwise: the class's and the reference's scratch -/
def k_C (C C' : xM) : Prop := ∀ a b, (a = 0 ∨ a = 1 ∨ a = 2 ∨ (5 ≤ a ∧ a ≤ 10) ∨ (a = 11 ∧ b = 1) ∨ a = 14 ∨ (19 ≤ a ∧ a ≤ 27) ∨ (31 ≤ a ∧ a ≤ 193) ∨ 197 ≤ a) → C' a b = C a b
def k_M (M M' : xM) : Prop := ∀ a b, ((a = 0 ∧ (b = 2 ∨ b = 4 ∨ b = 27)) ∨ a = 1 ∨ a = 2 ∨ a = 3 ∨ a = 12 ∨ a = 13 ∨ a = 14) → M' a b = M a b
theorem k_C.rf (C : xM) : k_C C C := fun _ _ _ => rfl
theorem k_M.rf (M : xM) : k_M M M := fun _ _ _ => rfl
theorem k_C.tr {C C' C'' : xM} (h : k_C C C') (h2 : k_C C' C'') : k_C C C'' := fun a b q => (h2 a b q).trans (h a b q)
theorem k_M.tr {C C' C'' : xM} (h : k_M C C') (h2 : k_M C' C'') : k_M C C'' := fun a b q => (h2 a b q).trans (h a b q)
theorem r_St.keep {o b : Nat} {C C' : xM} {s : Nat → Int32} {nP nF nD nJ t : Nat} (h : r_St o b C s nP nF nD nJ t) (ho : ∀ j, C' o j = C o j) (h1 : ∀ a j, (a = 23 + b ∨ a = 24 + b ∨ (31 + b ≤ a ∧ a < 185 + b)) → C' a j = C a j) : r_St o b C' s nP nF nD nJ t := by
  obtain ⟨⟨g1, g2, g3⟩, g4, g5, g6, g7, g8, g9⟩ := h
  exact ⟨⟨by simp only [ho]; exact g1, g2, g3⟩, g4.keep (fun i j hi hj => h1 _ _ (by omega)) (fun _ _ _ _ => rfl), g5.keep (fun i j hi hj => h1 _ _ (by omega)) (fun _ _ _ _ => rfl), g6.keep (fun i j hi hj => h1 _ _ (by omega)) (fun _ _ _ _ => rfl), g7.keep (fun i j hi hj => h1 _ _ (by omega)) (fun _ _ _ _ => rfl), g8.keep (fun j hj => h1 _ _ (by omega)) (fun _ _ => rfl), g9.keep (fun j hj => h1 _ _ (by omega)) (fun _ _ => rfl)⟩
theorem r_rows.keep {code ends code' ends' w w' : Nat → Int32} (h : r_rows code ends w) (hc : ∀ j, code' j = code j) (he : ∀ j, ends' j = ends j) (hw : ∀ j, w' j = w j) : r_rows code' ends' w' := by
  obtain rfl : code' = code := funext hc
  obtain rfl : ends' = ends := funext he
  obtain rfl : w' = w := funext hw
  exact h
theorem r_law.keep {b : Nat} {C C' : xM} {s : Nat → Int32} (h : r_law b C s) (h1 : ∀ a j, (a = 25 + b ∨ a = 26 + b ∨ a = 27 + b) → C' a j = C a j) : r_law b C' s := by
  rcases h with ⟨h2, h3⟩ | ⟨h2, h3, h4⟩
  · exact Or.inl ⟨h2, by rw [h1 _ _ (Or.inl rfl)]; exact h3⟩
  · exact Or.inr ⟨h2, by rw [h1 _ _ (Or.inl rfl)]; exact h3, h4.keep (fun j => h1 _ j (Or.inr (Or.inl rfl))) (fun j => h1 _ j (Or.inr (Or.inr rfl))) (fun _ => rfl)⟩
theorem r_Im.keep {C C' M M' : xM} (h : r_Im C M) (h0 : C' 0 2 = C 0 2) (h2 : ∀ j, C' 2 j = C 2 j) (h1 : ∀ a j, ((189 ≤ a ∧ a ≤ 193) ∨ 197 ≤ a) → C' a j = C a j) (g0 : M' 0 2 = M 0 2) (g2 : ∀ j, M' 2 j = M 2 j) : r_Im C' M' := by
  have e : M' 2 = M 2 := funext g2
  rcases h with ⟨a1, a2⟩ | ⟨a1, a2, nP, nF, nD, nJ, t, a3, a4, a5⟩
  · exact Or.inl ⟨by rw [g0]; exact a1, by rw [h0]; exact a2⟩
  · refine Or.inr ⟨by rw [g0]; exact a1, by rw [h0]; exact a2, nP, nF, nD, nJ, t, ?_⟩
    rw [e]
    exact ⟨a3.keep h2 (fun a j q => h1 a j (by omega)), a4.keep (fun a j q => h1 a j (by omega)), a5⟩
theorem Rel.keep {C C' M M' : xM} (h : Rel C M) (hc : k_C C C') (hm : k_M M M') : Rel C' M' := by
  obtain ⟨⟨nP, nF, nD, nJ, t, h1, h2, h3⟩, h4, ⟨n, t1, t2, t3, t4⟩, ⟨m, w1, w2, w3, w4⟩, s0, s1⟩ := h
  have e1 : M' 1 = M 1 := funext fun j => hm 1 j (by simp)
  refine ⟨⟨nP, nF, nD, nJ, t, ?_⟩, h4.keep (hc _ _ (by simp)) (fun j => hc _ _ (by simp)) (fun a j q => hc _ _ (by omega)) (hm _ _ (by simp)) (fun j => hm _ _ (by simp)), ⟨n, t1, ?_, ?_, fun i hi => ?_⟩, ⟨m, w1, ?_, ?_, fun i hi => ?_⟩, ?_, ?_⟩
  · rw [e1]
    exact ⟨h1.keep (fun j => hc _ _ (by simp)) (fun a j q => hc _ _ (by omega)), h2.keep (fun a j q => hc _ _ (by omega)), h3⟩
  · rw [hm _ _ (by simp)]; exact t2
  · rw [hc _ _ (by simp)]; exact t3
  · rw [hc _ _ (by simp), hm _ _ (by simp)]; exact t4 i hi
  · rw [hm _ _ (by simp)]; exact w2
  · rw [hc _ _ (by simp)]; exact w3
  · rw [hc _ _ (by simp), hm _ _ (by simp)]; exact w4 i hi
  · unfold r_S1 at s0 ⊢
    simp only [hc 7 _ (by simp), hc 8 _ (by simp), hc (9 + 0) _ (by simp), hm 14 _ (by simp), hm 13 _ (by simp)]
    exact s0
  · unfold r_S1 at s1 ⊢
    simp only [hc 7 _ (by simp), hc 8 _ (by simp), hc (9 + 1) _ (by simp), hm 14 _ (by simp), hm 13 _ (by simp)]
    exact s1
/-- the part of Rel that isn't the state that is now -/
def r_Rest (C M : xM) : Prop := r_Im C M ∧ r_Tp C M ∧ r_Wt C M ∧ r_S1 0 C M ∧ r_S1 1 C M
theorem r_Rest.keep {C C' M M' : xM} (h : r_Rest C M) (hc : ∀ a b, (a = 0 ∨ a = 2 ∨ (5 ≤ a ∧ a ≤ 10) ∨ (a = 11 ∧ b = 1) ∨ a = 14 ∨ (185 ≤ a ∧ a ≤ 193) ∨ 197 ≤ a) → C' a b = C a b) (hm : ∀ a b, ((a = 0 ∧ (b = 2 ∨ b = 4 ∨ b = 27)) ∨ a = 2 ∨ a = 3 ∨ a = 12 ∨ a = 13 ∨ a = 14) → M' a b = M a b) : r_Rest C' M' := by
  obtain ⟨h4, ⟨n, t1, t2, t3, t4⟩, ⟨m, w1, w2, w3, w4⟩, s0, s1⟩ := h
  refine ⟨h4.keep (hc _ _ (by simp)) (fun j => hc _ _ (by simp)) (fun a j q => hc _ _ (by omega)) (hm _ _ (by simp)) (fun j => hm _ _ (by simp)), ⟨n, t1, ?_, ?_, fun i hi => ?_⟩, ⟨m, w1, ?_, ?_, fun i hi => ?_⟩, ?_, ?_⟩
  · rw [hm _ _ (by simp)]; exact t2
  · rw [hc _ _ (by simp)]; exact t3
  · rw [hc _ _ (by simp), hm _ _ (by simp)]; exact t4 i hi
  · rw [hm _ _ (by simp)]; exact w2
  · rw [hc _ _ (by simp)]; exact w3
  · rw [hc _ _ (by simp), hm _ _ (by simp)]; exact w4 i hi
  · unfold r_S1 at s0 ⊢
    simp only [hc 7 _ (by simp), hc 8 _ (by simp), hc (9 + 0) _ (by simp), hm 14 _ (by simp), hm 13 _ (by simp)]
    exact s0
  · unfold r_S1 at s1 ⊢
    simp only [hc 7 _ (by simp), hc 8 _ (by simp), hc (9 + 1) _ (by simp), hm 14 _ (by simp), hm 13 _ (by simp)]
    exact s1
theorem i_P.keep {s s' : Nat → Int32} {n : Nat} (h : i_P s n) (hs : ∀ i j, i < n → j < 3 → s' (30 + 3 * i + j) = s (30 + 3 * i + j)) : i_P s' n := fun i hi => by
  obtain ⟨a1, a2, a3⟩ := h i hi
  refine ⟨by rw [show 30 + 3 * i = 30 + 3 * i + 0 from rfl, hs i 0 hi (by omega)]; exact a1, ?_, by rw [hs i 2 hi (by omega)]; exact a3⟩
  rcases a2 with a2 | ⟨q, b1, b2, b3, b4⟩
  · exact Or.inl (by rw [hs i 1 hi (by omega)]; exact a2)
  · exact Or.inr ⟨q, b1, b2, by rw [hs i 1 hi (by omega)]; exact b3, by rw [hs q 1 b1 (by omega)]; exact b4⟩
theorem i_F.keep {s s' : Nat → Int32} {n : Nat} (h : i_F s n) (hs : ∀ i j, i < n → j < 6 → s' (66 + 6 * i + j) = s (66 + 6 * i + j)) : i_F s' n := fun i hi => by
  rw [hs i 3 hi (by omega)]
  exact h i hi
theorem i_D.keep {s s' : Nat → Int32} {nP n nJ nP' nJ' : Nat} (h : i_D s nP n nJ) (h1 : nP ≤ nP') (h2 : nJ ≤ nJ') (hs : ∀ i j, i < n → j < 5 → s' (642 + 5 * i + j) = s (642 + 5 * i + j)) : i_D s' nP' n nJ' := fun i hi => by
  obtain ⟨a1, ⟨q, b1, b2⟩, a3⟩ := h i hi
  refine ⟨by rw [show 642 + 5 * i = 642 + 5 * i + 0 from rfl, hs i 0 hi (by omega)]; exact a1, ⟨q, by omega, by rw [hs i 1 hi (by omega)]; exact b2⟩, ?_⟩
  rw [hs i 4 hi (by omega)]
  rcases a3 with a3 | ⟨j, d1, d2⟩
  · exact Or.inl a3
  · exact Or.inr ⟨j, by omega, d2⟩
theorem i_J.keep {s s' : Nat → Int32} {nP n t nP' t' : Nat} (h : i_J s nP n t) (h1 : nP ≤ nP') (h2 : t ≤ t') (hs : ∀ i j, i < n → j < 10 → s' (792 + 10 * i + j) = s (792 + 10 * i + j)) : i_J s' nP' n t' := by
  obtain ⟨g, g2⟩ := h
  refine ⟨fun i hi => ?_, fun i j hi hj => ?_⟩
  · obtain ⟨⟨q, b1, b2⟩, ⟨d, d1, d2⟩, e1, e2, e3, e4, e5, e6⟩ := g i hi
    refine ⟨⟨q, by omega, by rw [show 792 + 10 * i = 792 + 10 * i + 0 from rfl, hs i 0 hi (by omega)]; exact b2⟩, ⟨d, by omega, by rw [hs i 1 hi (by omega)]; exact d2⟩, ?_, ?_, ?_, ?_, ?_, ?_⟩
    · rw [hs i 2 hi (by omega)]; exact e1
    · rw [hs i 3 hi (by omega)]; exact e2
    · rw [hs i 4 hi (by omega)]; exact e3
    · rw [hs i 5 hi (by omega)]; exact e4
    · rw [hs i 7 hi (by omega)]; exact e5
    · rw [hs i 8 hi (by omega)]; exact e6
  · rw [hs i 1 (by omega) (by omega), hs j 1 hj (by omega)]
    exact g2 i j hi hj
theorem i_R.keep {s s' : Nat → Int32} (h : i_R s) (h1 : ∀ j, j < 16 → s' (1 + j) = s (1 + j)) (h2 : ∀ j, j < 4 → s' (24 + j) = s (24 + j)) : i_R s' := ⟨fun j hj => by rw [h1 j hj]; exact h.1 j hj, fun j hj => by rw [h2 j hj]; exact h.2 j hj⟩
