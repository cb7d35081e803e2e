theorem x_cO_at {M : xM} {d s cnt w a b : Nat} (h : d ≤ a) (h2 : a < d + cnt) (h3 : b < w) : x_cO M d s cnt w a b = M (s + (a - d)) b := if_pos ⟨h, h2, h3⟩
theorem x_mv_at {M : xM} {a b n j : Nat} (h : j < n) : x_mv M a b 0 0 n b j = M a j := by
  unfold x_mv
  rw [if_pos rfl, pk_cpy_in (by omega) (by omega), Nat.zero_add, Nat.sub_zero]
def x_two (k0 a1 bd bs : Nat) : Prop := (k0 = 1 ∧ a1 = 2 ∧ bd = 0 ∧ bs = 166) ∨ (k0 = 2 ∧ a1 = 1 ∧ bd = 166 ∧ bs = 0)
theorem x_h5_ne {C : xM} {k0 a1 a b : Nat} (h : a ≠ k0) : x_h5 C k0 a1 a b = C a b := by
  unfold x_h5
  simp (disch := omega) only [x_uo, x_uj, x_us]
theorem x_h5_at {C : xM} {k0 a1 j : Nat} (h : a1 ≠ k0) (hj : j < 5) : x_h5 C k0 a1 k0 j = C a1 j := by
  unfold x_h5
  rcases (show j = 0 ∨ j = 1 ∨ j = 2 ∨ j = 3 ∨ j = 4 by omega) with rfl | rfl | rfl | rfl | rfl <;> simp (disch := omega) only [x_uo, x_uj, x_us]
section XB
variable {C : xM} {k0 a1 bd bs nP nF nD nJ : Nat}
theorem b_out (h : x_two k0 a1 bd bs) (n1 : nP ≤ 12) (n2 : nF ≤ 96) (n3 : nD ≤ 30) (n4 : nJ ≤ 16) {a b : Nat} (ha : a ≠ k0) (ho : a < 19 + bd ∨ 185 + bd ≤ a) : x_bec C k0 a1 bd bs nP nF nD nJ a b = C a b := by
  unfold x_two at h
  unfold x_bec
  simp (disch := omega) only [x_uo, x_mv_ne, x_cO_out, x_h5_ne]
theorem b_k0 (h : x_two k0 a1 bd bs) (n1 : nP ≤ 12) (n2 : nF ≤ 96) (n3 : nD ≤ 30) (n4 : nJ ≤ 16) {j : Nat} (hj : j < 5) : x_bec C k0 a1 bd bs nP nF nD nJ k0 j = C a1 j := by
  unfold x_two at h
  unfold x_bec
  simp (disch := omega) only [x_uo, x_mv_ne, x_cO_out, x_h5_at]
theorem b_P (h : x_two k0 a1 bd bs) (n1 : nP ≤ 12) (n2 : nF ≤ 96) (n3 : nD ≤ 30) (n4 : nJ ≤ 16) {i j : Nat} (hi : i < nP) (hj : j < 3) : x_bec C k0 a1 bd bs nP nF nD nJ (31 + i + bd) j = C (31 + i + bs) j := by
  unfold x_two at h
  unfold x_bec
  simp (disch := omega) only [x_uo, x_mv_ne, x_cO_out, x_cO_at, x_h5_ne]
  rw [show 31 + bs + (31 + i + bd - (31 + bd)) = 31 + i + bs by omega]
theorem b_F (h : x_two k0 a1 bd bs) (n1 : nP ≤ 12) (n2 : nF ≤ 96) (n3 : nD ≤ 30) (n4 : nJ ≤ 16) {i j : Nat} (hi : i < nF) (hj : j < 6) : x_bec C k0 a1 bd bs nP nF nD nJ (43 + i + bd) j = C (43 + i + bs) j := by
  unfold x_two at h
  unfold x_bec
  simp (disch := omega) only [x_uo, x_mv_ne, x_cO_out, x_cO_at, x_h5_ne]
  rw [show 43 + bs + (43 + i + bd - (43 + bd)) = 43 + i + bs by omega]
theorem b_D (h : x_two k0 a1 bd bs) (n1 : nP ≤ 12) (n2 : nF ≤ 96) (n3 : nD ≤ 30) (n4 : nJ ≤ 16) {i j : Nat} (hi : i < nD) (hj : j < 5) : x_bec C k0 a1 bd bs nP nF nD nJ (139 + i + bd) j = C (139 + i + bs) j := by
  unfold x_two at h
  unfold x_bec
  simp (disch := omega) only [x_uo, x_mv_ne, x_cO_out, x_cO_at, x_h5_ne]
  rw [show 139 + bs + (139 + i + bd - (139 + bd)) = 139 + i + bs by omega]
theorem b_J (h : x_two k0 a1 bd bs) (n1 : nP ≤ 12) (n2 : nF ≤ 96) (n3 : nD ≤ 30) (n4 : nJ ≤ 16) {i j : Nat} (hi : i < nJ) (hj : j < 10) : x_bec C k0 a1 bd bs nP nF nD nJ (169 + i + bd) j = C (169 + i + bs) j := by
  unfold x_two at h
  unfold x_bec
  simp (disch := omega) only [x_uo, x_mv_ne, x_cO_out, x_cO_at, x_h5_ne]
  rw [show 169 + bs + (169 + i + bd - (169 + bd)) = 169 + i + bs by omega]
theorem b_U (h : x_two k0 a1 bd bs) (n1 : nP ≤ 12) (n2 : nF ≤ 96) (n3 : nD ≤ 30) (n4 : nJ ≤ 16) {j : Nat} (hj : j < 16) : x_bec C k0 a1 bd bs nP nF nD nJ (23 + bd) j = C (23 + bs) j := by
  unfold x_two at h
  unfold x_bec
  simp (disch := omega) only [x_uo, x_mv_ne, x_mv_at, x_cO_out, x_h5_ne]
theorem b_L (h : x_two k0 a1 bd bs) (n1 : nP ≤ 12) (n2 : nF ≤ 96) (n3 : nD ≤ 30) (n4 : nJ ≤ 16) {j : Nat} (hj : j < 4) : x_bec C k0 a1 bd bs nP nF nD nJ (24 + bd) j = C (24 + bs) j := by
  unfold x_two at h
  unfold x_bec
  simp (disch := omega) only [x_uo, x_mv_ne, x_mv_at, x_cO_out, x_h5_ne]
theorem b_c (h : x_two k0 a1 bd bs) (n1 : nP ≤ 12) (n2 : nF ≤ 96) (n3 : nD ≤ 30) (n4 : nJ ≤ 16) {j : Nat} (hj : j < 120) : x_bec C k0 a1 bd bs nP nF nD nJ (26 + bd) j = C (26 + bs) j := by
  unfold x_two at h
  unfold x_bec
  simp (disch := omega) only [x_uo, x_mv_ne, x_mv_at, x_cO_out, x_h5_ne]
theorem b_e (h : x_two k0 a1 bd bs) (n1 : nP ≤ 12) (n2 : nF ≤ 96) (n3 : nD ≤ 30) (n4 : nJ ≤ 16) {j : Nat} (hj : j < 3) : x_bec C k0 a1 bd bs nP nF nD nJ (27 + bd) j = C (27 + bs) j := by
  unfold x_two at h
  unfold x_bec
  simp (disch := omega) only [x_uo, x_mv_ne, x_mv_at, x_cO_out, x_h5_ne]
theorem b_l (h : x_two k0 a1 bd bs) (n1 : nP ≤ 12) (n2 : nF ≤ 96) (n3 : nD ≤ 30) (n4 : nJ ≤ 16) : x_bec C k0 a1 bd bs nP nF nD nJ (25 + bd) 3 = C (25 + bs) 3 := by
  unfold x_two at h
  unfold x_bec
  simp (disch := omega) only [x_uo, x_us, x_mv_ne, x_cO_out, x_h5_ne]
end XB
theorem r_rows.keepB {code ends code' ends' w : Nat → Int32} (h : r_rows code ends w) (hc : ∀ j, j < 120 → code' j = code j) (he : ∀ j, j < 3 → ends' j = ends j) : r_rows code' ends' w := by
  obtain ⟨n0, n1, n2, h0, a1, a2, a3, a4, a5, a6, ⟨b1, b2⟩, ⟨b3, b4⟩, ⟨b5, b6⟩⟩ := h
  refine ⟨n0, n1, n2, h0, a1, a2, a3, by rw [he 0 (by decide)]; exact a4, by rw [he 1 (by decide)]; exact a5, by rw [he 2 (by decide)]; exact a6, ⟨fun k hk => ?_, b2⟩, ⟨fun k hk => ?_, b4⟩, ⟨fun k hk => ?_, b6⟩⟩
  · exact ⟨(b1 k hk).1, by rw [hc _ (by omega)]; exact (b1 k hk).2⟩
  · exact ⟨(b3 k hk).1, by rw [hc _ (by omega)]; exact (b3 k hk).2⟩
  · exact ⟨(b5 k hk).1, by rw [hc _ (by omega)]; exact (b5 k hk).2⟩
theorem r_Full.bec {C : xM} {s : Nat → Int32} {k0 a1 bd bs nP nF nD nJ t : Nat} (h2 : x_two k0 a1 bd bs) (h : r_Full a1 bs C s nP nF nD nJ t) : r_Full k0 bd (x_bec C k0 a1 bd bs nP nF nD nJ) s nP nF nD nJ t := by
  obtain ⟨⟨⟨⟨d0, d1, d2, d3, d4⟩, g2, n1, n2, n3, n4, n5⟩, gP, gF, gD, gJ, gR, gL⟩, hl, hi⟩ := h
  refine ⟨⟨⟨⟨?_, ?_, ?_, ?_, ?_⟩, g2, n1, n2, n3, n4, n5⟩, fun i hi j hj => ?_, fun i hi j hj => ?_, fun i hi j hj => ?_, fun i hi => ⟨fun j hj => ?_, ?_, ?_⟩, fun j hj => ?_, fun j hj => ?_⟩, ?_, hi⟩
  · rw [b_k0 h2 n1 n2 n3 n4 (by decide)]; exact d0
  · rw [b_k0 h2 n1 n2 n3 n4 (by decide)]; exact d1
  · rw [b_k0 h2 n1 n2 n3 n4 (by decide)]; exact d2
  · rw [b_k0 h2 n1 n2 n3 n4 (by decide)]; exact d3
  · rw [b_k0 h2 n1 n2 n3 n4 (by decide)]; exact d4
  · rw [b_P h2 n1 n2 n3 n4 hi hj]; exact gP i hi j hj
  · rw [b_F h2 n1 n2 n3 n4 hi hj]; exact gF i hi j hj
  · rw [b_D h2 n1 n2 n3 n4 hi hj]; exact gD i hi j hj
  · rw [b_J h2 n1 n2 n3 n4 hi (by omega)]; exact (gJ i hi).1 j hj
  · rw [b_J h2 n1 n2 n3 n4 hi (by omega)]; exact (gJ i hi).2.1
  · rw [b_J h2 n1 n2 n3 n4 hi (by omega)]; exact (gJ i hi).2.2
  · rw [b_U h2 n1 n2 n3 n4 hj]; exact gR j hj
  · rw [b_L h2 n1 n2 n3 n4 hj]; exact gL j hj
  · rcases hl with ⟨q1, q2⟩ | ⟨q1, q2, q3⟩
    · exact Or.inl ⟨q1, by rw [b_l h2 n1 n2 n3 n4]; exact q2⟩
    · exact Or.inr ⟨q1, by rw [b_l h2 n1 n2 n3 n4]; exact q2, q3.keepB (fun j hj => b_c h2 n1 n2 n3 n4 hj) (fun j hj => b_e h2 n1 n2 n3 n4 hj)⟩
theorem p_kp {M : xM} {d s : Nat} (hds : d ≠ s) (L : (xM → Option (Int32 × xM)) → Nat → xM → Int32 → Option (Int32 × xM)) (hL : ∀ k n N x, L k (n + 1) N x = if (1675 : Int32) ≤ x then k N else x_g x 1675 (x_g x 1675 (x_l (x_up N d x.toNatClampNeg (N s x.toNatClampNeg)) fun M_12 => x_l (x + (1 : Int32)) fun x1 => L k n M_12 x1))) (k : xM → Option (Int32 × xM)) : ∀ (fu i : Nat), i ≤ 1675 → 1675 - i < fu → L k fu (x_ft M d 0 i (fun x => M s x)) (nI i) = k (x_ft M d 0 1675 (fun x => M s x)) := by
  intro fu
  induction fu with
  | zero => intro i _ h; omega
  | succ f ih =>
    intro i hi hf
    rw [hL]
    by_cases q : i = 1675
    · subst q
      rw [if_pos (show (1675 : Int32) ≤ nI 1675 from Int32.le_refl _)]
    · rw [if_neg (show ¬ (1675 : Int32) ≤ nI i from u_lie (a := i) (b := 1675) (by omega) (by decide)), u_g (by omega) (by decide), u_g (by omega) (by decide), u_c (by omega)]
      simp only [x_l, u_a1]
      have e := ih (i + 1) (by omega) (by omega)
      rw [← x_ft_s, Nat.zero_add] at e
      rw [x_ft_ne (Ne.symm hds)]
      exact e
theorem r_Full.cong {o b : Nat} {C : xM} {s s' : Nat → Int32} {nP nF nD nJ t : Nat} (h : r_Full o b C s nP nF nD nJ t) (hs : ∀ j, j < 1675 → s' j = s j) : r_Full o b C s' nP nF nD nJ t := by
  obtain ⟨⟨⟨g1, ⟨s0, s1, s2, s3, s4⟩, n1, n2, n3, n4, n5⟩, gP, gF, gD, gJ, gR, gL⟩, hl, iP, iF, iD, iJ, iR⟩ := h
  refine ⟨⟨⟨g1, ⟨by rw [hs 0 (by omega)]; exact s0, by rw [hs 17 (by omega)]; exact s1, by rw [hs 18 (by omega)]; exact s2, by rw [hs 19 (by omega)]; exact s3, by rw [hs 20 (by omega)]; exact s4⟩, n1, n2, n3, n4, n5⟩, gP.keep (fun _ _ _ _ => rfl) (fun i j hi hj => hs _ (by omega)), gF.keep (fun _ _ _ _ => rfl) (fun i j hi hj => hs _ (by omega)), gD.keep (fun _ _ _ _ => rfl) (fun i j hi hj => hs _ (by omega)), gJ.keep (fun _ _ _ _ => rfl) (fun i j hi hj => hs _ (by omega)), gR.keep (fun _ _ => rfl) (fun j hj => hs _ (by omega)), gL.keep (fun _ _ => rfl) (fun j hj => hs _ (by omega))⟩, ?_, ⟨iP.keep (fun i j hi hj => hs _ (by omega)), iF.keep (fun i j hi hj => hs _ (by omega)), iD.keep (Nat.le_refl _) (Nat.le_refl _) (fun i j hi hj => hs _ (by omega)), iJ.keep (Nat.le_refl _) (Nat.le_refl _) (fun i j hi hj => hs _ (by omega)), iR.keep (fun j hj => hs _ (by omega)) (fun j hj => hs _ (by omega))⟩⟩
  rcases hl with ⟨q1, q2⟩ | ⟨q1, q2, m0, m1, m2, h0, a1, a2, a3, a4, a5, a6, ⟨b1, b2⟩, ⟨b3, b4⟩, ⟨b5, b6⟩⟩
  · exact Or.inl ⟨by rw [hs 21 (by omega)]; exact q1, q2⟩
  · refine Or.inr ⟨by rw [hs 21 (by omega)]; exact q1, q2, m0, m1, m2, h0, ?_, ?_, ?_, a4, a5, a6, ?_, ?_, ?_⟩
    · exact (hs _ (by omega)).trans a1
    · exact (hs _ (by omega)).trans a2
    · exact (hs _ (by omega)).trans a3
    · exact r_row.cong ⟨b1, b2⟩ (fun j hj => hs _ (by omega))
    · exact r_row.cong ⟨b3, b4⟩ (fun j hj => hs _ (by omega))
    · exact r_row.cong ⟨b5, b6⟩ (fun j hj => hs _ (by omega))
