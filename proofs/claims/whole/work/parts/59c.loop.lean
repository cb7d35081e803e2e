theorem w_fin {L : Nat → Prop} {e n c j d : Nat} {f : Nat → Int32} {kC : xM → Int32 → Option (Int32 × xM)} {kM : xM → Option (Int32 × xM)} {fu : Nat} {C M : xM} {code : Nat → Int32}
    (ih : ∀ (j d : Nat) (C M : xM), n - j < fu → j ≤ n → r_dep f j = some d → C 27 c = nI (e + n) → (∀ i, i < n → C 26 (e + i) = code (e + i)) → M 1 (952 + 241 * c) = nI n → (∀ i, i < 2 * n → M 1 (952 + 241 * c + 1 + i) = f i) → (∀ l, L l → 97 ≤ l → l ≤ 122 → C 29 (l - 97) = M 7 l) → (∀ i, i < d → C 30 i = M 6 i) → ∃ C' M', fX7_workOut_L24 (nI c) kC fu C (w_t d) (nI (e + j)) = kC C' 0 ∧ fX11_worked_L15 (nI (952 + 241 * c)) kM fu M (nI d) (nI j) = kM M' ∧ (∀ a b, a ≠ 30 → C' a b = C a b) ∧ (∀ a b, a ≠ 6 → M' a b = M a b) ∧ C' 30 0 = M' 6 0)
    (hf : n - j < fu + 1) (hj : j < n) (c27 : C 27 c = nI (e + n)) (c26 : ∀ i, i < n → C 26 (e + i) = code (e + i)) (m1 : M 1 (952 + 241 * c) = nI n) (mf : ∀ i, i < 2 * n → M 1 (952 + 241 * c + 1 + i) = f i) (hl : ∀ l, L l → 97 ≤ l → l ≤ 122 → C 29 (l - 97) = M 7 l) (hp : ∀ i, i < d → C 30 i = M 6 i)
    (p d1 : Nat) (z : Int32) (h1 : r_dep f (j + 1) = some d1) (h2 : ∀ i, i < d1 → i ≠ p → i < d) : ∃ C' M', fX7_workOut_L24 (nI c) kC fu (x_up C 30 p z) (w_t d1) (nI (e + j + 1)) = kC C' 0 ∧ fX11_worked_L15 (nI (952 + 241 * c)) kM fu (x_up M 6 p z) (nI d1) (nI (j + 1)) = kM M' ∧ (∀ a b, a ≠ 30 → C' a b = C a b) ∧ (∀ a b, a ≠ 6 → M' a b = M a b) ∧ C' 30 0 = M' 6 0 := by
  obtain ⟨C', M', g1, g2, g3, g4, g5⟩ := ih (j + 1) d1 (x_up C 30 p z) (x_up M 6 p z) (by omega) (by omega) h1 (by rw [x_uo (by omega)]; exact c27) (fun i hi => by rw [x_uo (by omega)]; exact c26 i hi) (by rw [x_uo (by omega)]; exact m1) (fun i hi => by rw [x_uo (by omega)]; exact mf i hi) (fun l a b c => by rw [x_uo (by omega), x_uo (by omega)]; exact hl l a b c) (fun i hi => by
    by_cases q : i = p
    · rw [q, x_us, x_us]
    · rw [x_uj q, x_uj q]
      exact hp i (h2 i hi q))
  exact ⟨C', M', g1, g2, fun a b q => (g3 a b q).trans (x_uo q), fun a b q => (g4 a b q).trans (x_uo q), g5⟩
theorem w_loop {L : Nat → Prop} {code : Nat → Int32} {e n c : Nat} {f : Nat → Int32} (hr : r_row L code e f n) (hen : e + n ≤ 120) (hc : c < 3) (kC : xM → Int32 → Option (Int32 × xM)) (kM : xM → Option (Int32 × xM)) : ∀ (fu j d : Nat) (C M : xM), n - j < fu → j ≤ n → r_dep f j = some d → C 27 c = nI (e + n) → (∀ i, i < n → C 26 (e + i) = code (e + i)) → M 1 (952 + 241 * c) = nI n → (∀ i, i < 2 * n → M 1 (952 + 241 * c + 1 + i) = f i) → (∀ l, L l → 97 ≤ l → l ≤ 122 → C 29 (l - 97) = M 7 l) → (∀ i, i < d → C 30 i = M 6 i) → ∃ C' M', fX7_workOut_L24 (nI c) kC fu C (w_t d) (nI (e + j)) = kC C' 0 ∧ fX11_worked_L15 (nI (952 + 241 * c)) kM fu M (nI d) (nI j) = kM M' ∧ (∀ a b, a ≠ 30 → C' a b = C a b) ∧ (∀ a b, a ≠ 6 → M' a b = M a b) ∧ C' 30 0 = M' 6 0 := by
  intro fu
  induction fu with
  | zero => intro j d C M h; omega
  | succ fu ih =>
    intro j d C M hf hj hd c27 c26 m1 mf hl hp
    by_cases q : j = n
    · subst q
      have h1 : d = 1 := Option.some.inj (hd.symm.trans hr.2)
      rw [fX7_workOut_L24, fX11_worked_L15, u_g (by omega) (by omega), u_c (by omega), c27, if_pos (Int32.le_refl _), u_g (by omega) (by omega), u_c (by omega), m1, if_pos (Int32.le_refl _), h1]
      exact ⟨C, M, rfl, rfl, fun _ _ _ => rfl, fun _ _ _ => rfl, hp 0 (by omega)⟩
    · have hj' : j < n := by omega
      have hdj := r_dep.le hd
      obtain ⟨hw, hcode⟩ := hr.1 j hj'
      obtain ⟨d1, hd1⟩ := r_dep.pre hr.2 (j + 1) (by omega)
      have fin := fun p z => w_fin (kC := kC) (kM := kM) (L := L) (e := e) (code := code) (j := j) (d := d) ih hf hj' c27 c26 m1 mf hl hp p d1 z hd1
      have b26 := (c26 j hj').trans hcode
      have bw := mf (2 * j) (by omega)
      have bv := mf (2 * j + 1) (by omega)
      rw [r_dep, hd] at hd1
      simp only at hd1
      rcases hw with ⟨w1, v, hv, ev⟩ | ⟨w2, l, l1, l2, lL, el⟩ | ⟨ww, v0⟩
      · rw [w1, if_pos (Or.inl rfl)] at hd1
        obtain rfl : d + 1 = d1 := Option.some.inj hd1
        rw [w1, ev] at b26
        rw [w_c1 hc c27 (by omega) hen (by omega) (v := v) (b26.trans (if_pos rfl)) hv, w_m1 hc m1 hj' (by omega) (by omega) (bw.trans w1) (bv.trans ev)]
        exact fin d (nI v) (by omega)
      · rw [w2, if_pos (Or.inr rfl)] at hd1
        obtain rfl : d + 1 = d1 := Option.some.inj hd1
        rw [w2, el] at b26
        rw [w_c2 hc c27 (by omega) hen (by omega) (v := l) (b26.trans rfl) l1 l2, w_m2 hc m1 hj' (by omega) (by omega) l2 (bw.trans w2) (bv.trans el), hl l lL l1 l2]
        exact fin d (M 7 l) (by omega)
      · by_cases w3 : f (2 * j) = 3
        · rw [w3, if_neg (by decide), if_pos rfl] at hd1
          by_cases d0 : 1 ≤ d
          · rw [if_pos d0] at hd1
            obtain rfl : d = d1 := Option.some.inj hd1
            obtain ⟨d', rfl⟩ : ∃ d', d = d' + 1 := ⟨d - 1, by omega⟩
            rw [w3] at b26
            rw [w_c3 hc c27 (by omega) hen (by omega) (b26.trans rfl), w_m3 hc m1 hj' (by omega) (by omega) (bw.trans w3), hp d' (by omega)]
            exact fin d' _ (by omega)
          · rw [if_neg d0] at hd1
            cases hd1
        · have w9 := ww.resolve_left w3
          have wn : ¬ f (2 * j) = 1 ∧ ¬ f (2 * j) = 2 ∧ ¬ (0 : Int32) ≤ r_it (f (2 * j)) 0 ∧ (-(r_it (f (2 * j)) 0) < 97 ∨ 122 < -(r_it (f (2 * j)) 0)) ∧ ¬ r_it (f (2 * j)) 0 = -33 := by
            rcases w9 with e | e | e | e | e | e | e | e | e <;> (rw [e]; decide)
          rw [if_neg (fun z => z.elim wn.1 wn.2.1), if_neg w3] at hd1
          by_cases d0 : 2 ≤ d
          · rw [if_pos d0] at hd1
            obtain ⟨d', rfl⟩ : ∃ d', d = d' + 2 := ⟨d - 2, by omega⟩
            obtain rfl : d' + 1 = d1 := Option.some.inj hd1
            rw [v0] at b26
            obtain ⟨r, r1, r2⟩ := w_join C M (f (2 * j)) w9 (M 6 d') (M 6 (d' + 1))
            rw [w_c4 (r := r) hc c27 (by omega) hen (by omega) b26 wn.2.2.1 wn.2.2.2.1 wn.2.2.2.2 (by rw [hp d' (by omega), hp (d' + 1) (by omega)]; exact r1), w_m4 (r := r) hc m1 hj' (by omega) (by omega) bw wn.1 wn.2.1 w3 r2]
            exact fin d' r (by omega)
          · rw [if_neg d0] at hd1
            cases hd1
