theorem x_mv_ne {M : xM} {a b sp dp n c j : Nat} (h : c ≠ b) : x_mv M a b sp dp n c j = M c j := by
  unfold x_mv
  rw [if_neg h]
/-- places lo .. lo + n - 1 of cell k become f's -/
def x_ft (M : xM) (k lo n : Nat) (f : Nat → Int32) : xM := fun a b => if a = k ∧ lo ≤ b ∧ b < lo + n then f (b - lo) else M a b
theorem x_ft_0 (M : xM) (k lo : Nat) (f : Nat → Int32) : x_ft M k lo 0 f = M := by
  funext a b
  exact if_neg (by omega)
theorem x_ft_s (M : xM) (k lo n : Nat) (f : Nat → Int32) : x_up (x_ft M k lo n f) k (lo + n) (f n) = x_ft M k lo (n + 1) f := by
  funext a b
  rw [x_up_at]
  unfold x_ft
  by_cases h1 : a = k
  · by_cases h2 : b = lo + n
    · rw [if_pos h1, if_pos h2, if_pos (by omega), show b - lo = n by omega]
    · rw [if_pos h1, if_neg h2]
      by_cases h3 : lo ≤ b ∧ b < lo + n
      · rw [if_pos ⟨h1, h3⟩, if_pos (by omega)]
      · rw [if_neg (fun q => h3 q.2), if_neg (by omega)]
  · rw [if_neg h1, if_neg (fun q => h1 q.1), if_neg (fun q => h1 q.1)]
theorem x_ft_ne {M : xM} {k lo n a b : Nat} {f : Nat → Int32} (h : a ≠ k) : x_ft M k lo n f a b = M a b := if_neg (fun q => h q.1)
theorem x_ft_out {M : xM} {k lo n b : Nat} {f : Nat → Int32} (h : b < lo ∨ lo + n ≤ b) : x_ft M k lo n f k b = M k b := if_neg (by omega)
theorem x_ft_in {M : xM} {k lo n b : Nat} {f : Nat → Int32} (h : lo ≤ b) (h2 : b < lo + n) : x_ft M k lo n f k b = f (b - lo) := if_pos ⟨rfl, h, h2⟩
theorem p_cp1 {z p m : Nat} (hz : z < 2) (hm : p + m ≤ 24) {M : xM} (k : xM → Option (Int32 × xM)) : ∀ (fu i : Nat), i ≤ m → m - i < fu → fX11_copy_L93 (nI z) (nI p) (nI m) k fu (x_ft M 15 0 i (fun x => M 13 (24 * z + p + x))) (nI i) = k (x_ft M 15 0 m (fun x => M 13 (24 * z + p + x))) := by
  intro fu
  induction fu with
  | zero => intro i _ h; omega
  | succ f ih =>
    intro i hi hf
    rw [fX11_copy_L93]
    by_cases q : i = m
    · subst q
      rw [if_pos (Int32.le_refl _)]
    · rw [if_neg (u_lie (by omega) (by omega)), u_24z, nI_add]
      simp (disch := omega) only [x_l, u_g, u_c, u_a1]
      have e := ih (i + 1) (by omega) (by omega)
      rw [← x_ft_s, Nat.zero_add] at e
      rw [x_ft_ne (by decide)]
      exact e
theorem p_cp2 {z p m : Nat} (hz : z < 2) (hm : p + m ≤ 24) {M : xM} : ∀ (fu i : Nat), i ≤ m → m - i < fu → fX11_copy_L130 (nI z) (nI p) (nI m) fu (x_ft M 13 (24 * z + p) i (fun x => M 15 x)) (nI i) = some (nI m, x_ft M 13 (24 * z + p) m (fun x => M 15 x)) := by
  intro fu
  induction fu with
  | zero => intro i _ h; omega
  | succ f ih =>
    intro i hi hf
    rw [fX11_copy_L130]
    by_cases q : i = m
    · subst q
      rw [if_pos (Int32.le_refl _)]
    · rw [if_neg (u_lie (by omega) (by omega)), u_24z, nI_add]
      simp (disch := omega) only [x_l, u_g, u_c, u_a1]
      have e := ih (i + 1) (by omega) (by omega)
      rw [← x_ft_s] at e
      rw [x_ft_ne (by decide)]
      exact e
theorem q_copy {C M : xM} (h : Rel C M) (a b c d e : Int32) : q_Stp (fX10_copy C a b c d e) (fX11_copy M a b c d e) := by
  unfold fX10_copy fX11_copy
  rw [c_in, p_in, x_b_some, x_b_some]
  refine q_ck h Iff.rfl (fun ha => ?_)
  obtain ⟨z, hz, rfl⟩ := u_of (n := 1) ha.1 ha.2 (by decide)
  rw [c_in, p_in, x_b_some, x_b_some]
  refine q_ck h Iff.rfl (fun hc => ?_)
  obtain ⟨y, hy, rfl⟩ := u_of (n := 1) hc.1 hc.2 (by decide)
  simp (disch := omega) only [u_g, u_c]
  rcases h.s1 (show z < 2 by omega) with ⟨e14, e7⟩ | ⟨n, hn, e14, e7, e8, ep⟩
  · rw [e14, e7, if_pos rfl, if_neg (by decide)]
    exact q_same h rfl rfl
  · have en : ¬ nI n = (-1 : Int32) := by rw [l_neg (by omega)]; exact id
    rw [e14, e7, e8, if_pos rfl, if_neg en]
    rcases h.s1 (show y < 2 by omega) with ⟨f14, f7⟩ | ⟨m, hm, f14, f7, f8, fp⟩
    · rw [f14, f7, if_pos rfl, if_neg (by decide)]
      exact q_same h rfl rfl
    · have em : ¬ nI m = (-1 : Int32) := by rw [l_neg (by omega)]; exact id
      rw [f14, f7, if_pos rfl, if_neg em]
      simp only [c_in, x_b_some, u_if0, e8, f8]
      by_cases hb : b < 0
      · rw [if_pos hb, if_pos (fun q => Int32.not_le.mpr hb q.1)]
        exact q_same h rfl rfl
      · rw [if_neg hb]
        obtain ⟨p, hp, rfl⟩ := nI_of hb
        by_cases hd : d < 0
        · rw [if_pos hd]
          refine q_same h (r := -1000000013) ?_ rfl
          rw [if_pos (show ¬ (0 ≤ d ∧ d ≤ nI m) from fun q => Int32.not_le.mpr hd q.1)]
          split <;> rfl
        · rw [if_neg hd]
          obtain ⟨r, hr, rfl⟩ := nI_of hd
          by_cases he : e < 0
          · rw [if_pos he]
            refine q_same h (r := -1000000013) ?_ rfl
            split
            · rfl
            · split
              · rfl
              · rw [if_pos (fun q => Int32.not_le.mpr he q.1)]
          · rw [if_neg he]
            obtain ⟨k, hk, rfl⟩ := nI_of he
            have z0 : ∀ x, x < 2 ^ 31 → (0 : Int32) ≤ nI x := fun x hx => nI_pos' hx
            -- the class asks for p ≤ n, r ≤ m, k ≤ the lesser rest
            have t1 : (nI n - nI k < nI p) = (n < p + k) := by
              refine propext ?_
              rw [Int32.lt_iff_toInt_lt, fb_subI (by rw [nI_toInt (by omega), nI_toInt hk]; omega) (by rw [nI_toInt (by omega), nI_toInt hk]; omega), nI_toInt (by omega), nI_toInt hk, nI_toInt hp]
              omega
            have t2 : (nI r ≤ nI m - nI k) = (r + k ≤ m) := by
              refine propext ?_
              rw [Int32.le_iff_toInt_le, fb_subI (by rw [nI_toInt (show m < 2 ^ 31 by omega), nI_toInt hk]; omega) (by rw [nI_toInt (show m < 2 ^ 31 by omega), nI_toInt hk]; omega), nI_toInt (show m < 2 ^ 31 by omega), nI_toInt hk, nI_toInt hr]
              omega
            by_cases g1 : p + k ≤ n
            · by_cases g2 : r + k ≤ m
              · have w1 : ¬ (nI n - nI k < nI p) := by rw [t1]; omega
                have w2 : nI r ≤ nI m - nI k := by rw [t2]; exact g2
                rw [if_neg w1, if_pos w2]
                rw [if_neg (not_not_intro ⟨z0 p hp, nI_le (by omega) (by omega)⟩), if_neg (not_not_intro ⟨z0 r hr, nI_le (by omega) (by omega)⟩), pk_sub (show p ≤ n by omega), pk_sub (show r ≤ m by omega)]
                have w3 : 0 ≤ nI k ∧ nI k ≤ (if nI (m - r) < nI (n - p) then nI (m - r) else nI (n - p)) := by
                  refine ⟨z0 k hk, ?_⟩
                  split
                  · exact nI_le (by omega) (by omega)
                  · exact nI_le (by omega) (by omega)
                rw [if_neg (not_not_intro w3)]
                have e1 := p_cp1 (z := z) (p := p) (m := k) (by omega) (by omega) (M := M) (fun (M_21 : xM) => fX11_copy_L130 (nI y) (nI r) (nI k) x_FU M_21 0) x_FU 0 (Nat.zero_le _) (by rw [x_FU_eq]; omega)
                rw [x_ft_0] at e1
                have e2 := p_cp2 (z := y) (p := r) (m := k) (by omega) (by omega) (M := x_ft M 15 0 k (fun x => M 13 (24 * z + p + x))) x_FU 0 (Nat.zero_le _) (by rw [x_FU_eq]; omega)
                rw [x_ft_0] at e2
                refine ⟨nI k, x_mv C (9 + z) (9 + y) p r k, x_ft (x_ft M 15 0 k fun x => M 13 (24 * z + p + x)) 13 (24 * y + r) k fun x => x_ft M 15 0 k (fun x => M 13 (24 * z + p + x)) 15 x, ?_, (Eq.trans ?_ (e1.trans e2)), ?_⟩
                · unfold x_cp
                  rw [x_n9 (by omega), x_n9 (by omega), u_c hp, u_c hr, u_c hk, if_neg (by
                    intro q
                    rcases q with q | q | q | q | q
                    · exact hb q
                    · exact hd q
                    · exact he q
                    · omega
                    · omega)]
                  rfl
                · rfl
                · refine Rel.sheets2 (z := y) (by omega) h (fun a b q => ?_) (fun a b q => ?_) (Or.inr ⟨m, hm, ?_, ?_, ?_, fun i hi => ?_⟩) (fun x hx hxz => ⟨?_, ?_, ?_, fun i hi => ⟨?_, ?_⟩⟩)
                  · exact x_mv_ne (by omega)
                  · simp (disch := omega) only [x_ft_ne]
                  · simp (disch := omega) only [x_ft_ne]; exact f14
                  · exact (x_mv_ne (by omega)).trans f7
                  · exact (x_mv_ne (by omega)).trans f8
                  · show x_mv C (9 + z) (9 + y) p r k (9 + y) i = _
                    unfold x_mv
                    rw [if_pos rfl]
                    by_cases q : r ≤ i ∧ i < r + k
                    · rw [pk_cpy_in q.1 q.2, x_ft_in (by omega) (by omega), x_ft_in (by omega) (by omega), ep _ (by omega)]
                      congr 1
                      omega
                    · rw [pk_cpy_out (by omega), x_ft_out (by omega), x_ft_ne (by decide)]
                      exact fp i hi
                  · exact x_mv_ne (by omega)
                  · exact x_mv_ne (by omega)
                  · simp (disch := omega) only [x_ft_ne]
                  · exact x_mv_ne (by omega)
                  · rw [x_ft_out (by omega), x_ft_ne (by decide)]
              · have w2 : ¬ nI r ≤ nI m - nI k := by rw [t2]; exact g2
                have w1 : ¬ (nI n - nI k < nI p) := by rw [t1]; omega
                rw [if_neg w1, if_neg w2]
                refine q_same h (r := -1000000013) ?_ rfl
                split
                · rfl
                · split
                  · rfl
                  · rename_i q3
                    have q4 := Decidable.not_not.mp q3
                    rw [l_len hr (by omega)] at q4
                    rw [pk_sub (show p ≤ n by omega), pk_sub q4.2]
                    refine if_pos (fun w => ?_)
                    have w5 := w.2
                    split at w5
                    · rw [l_len hk (by omega)] at w5
                      omega
                    · rename_i w6
                      rw [l_ltn (by omega) (by omega)] at w6
                      rw [l_len hk (by omega)] at w5
                      omega
            · have w1 : nI n - nI k < nI p := by rw [t1]; omega
              rw [if_pos w1]
              refine q_same h (r := -1000000013) ?_ rfl
              split
              · rfl
              · rename_i q2
                have q5 := Decidable.not_not.mp q2
                rw [l_len hp (by omega)] at q5
                split
                · rfl
                · rename_i q3
                  have q4 := Decidable.not_not.mp q3
                  rw [l_len hr (by omega)] at q4
                  rw [pk_sub q5.2, pk_sub q4.2]
                  refine if_pos (fun w => ?_)
                  have w5 := w.2
                  split at w5
                  · rename_i w6
                    rw [l_ltn (by omega) (by omega)] at w6
                    rw [l_len hk (by omega)] at w5
                    omega
                  · rw [l_len hk (by omega)] at w5
                    omega
