/-- the numbers of a state, taken over -/
def x_h5 (C : xM) (k0 a1 : Nat) : xM := x_up (x_up (x_up (x_up (x_up C k0 0 (C a1 0)) k0 1 (x_up C k0 0 (C a1 0) a1 1)) k0 2 (x_up (x_up C k0 0 (C a1 0)) k0 1 (x_up C k0 0 (C a1 0) a1 1) a1 2)) k0 3 (x_up (x_up (x_up C k0 0 (C a1 0)) k0 1 (x_up C k0 0 (C a1 0) a1 1)) k0 2 (x_up (x_up C k0 0 (C a1 0)) k0 1 (x_up C k0 0 (C a1 0) a1 1) a1 2) a1 3)) k0 4 (x_up (x_up (x_up (x_up C k0 0 (C a1 0)) k0 1 (x_up C k0 0 (C a1 0) a1 1)) k0 2 (x_up (x_up C k0 0 (C a1 0)) k0 1 (x_up C k0 0 (C a1 0) a1 1) a1 2)) k0 3 (x_up (x_up (x_up C k0 0 (C a1 0)) k0 1 (x_up C k0 0 (C a1 0) a1 1)) k0 2 (x_up (x_up C k0 0 (C a1 0)) k0 1 (x_up C k0 0 (C a1 0) a1 1) a1 2) a1 3) a1 4)
def x_bec (C : xM) (k0 a1 bd bs nP nF nD nJ : Nat) : xM :=
  let C5 := x_cO (x_cO (x_cO (x_cO (x_h5 C k0 a1) (31 + bd) (31 + bs) nP 3) (43 + bd) (43 + bs) nF 6) (139 + bd) (139 + bs) nD 5) (169 + bd) (169 + bs) nJ 10
  let C6 := x_mv C5 (23 + bs) (23 + bd) 0 0 16
  let C7 := x_mv C6 (24 + bs) (24 + bd) 0 0 4
  let C8 := x_mv C7 (26 + bs) (26 + bd) 0 0 120
  let C9 := x_mv C8 (27 + bs) (27 + bd) 0 0 3
  let C10 := x_up C9 (25 + bd) 2 (C9 (25 + bs) 2)
  x_up C10 (25 + bd) 3 (C10 (25 + bs) 3)
theorem c_becA {C : xM} {nP nF nD nJ : Nat} (h1 : C 2 1 = nI nP) (h2 : C 2 2 = nI nF) (h3 : C 2 3 = nI nD) (h4 : C 2 4 = nI nJ) (n1 : nP ≤ 12) (n2 : nF ≤ 96) (n3 : nD ≤ 30) (n4 : nJ ≤ 16) (hz : ∀ i, i < nJ → (C (335 + i) 8 = 0 ∨ C (335 + i) 8 = 1) ∧ (C (335 + i) 9 = 0 ∨ C (335 + i) 9 = 1)) : fX8_become C 1 2 = some (x_bec C 1 2 0 166 nP nF nD nJ) := by
  unfold fX8_become x_bec
  simp only [x_l]
  have e0 : (0 : Int32).toNatClampNeg = 0 := rfl
  have e16 : (16 : Int32).toNatClampNeg = 16 := rfl
  have e4 : (4 : Int32).toNatClampNeg = 4 := rfl
  have e120 : (120 : Int32).toNatClampNeg = 120 := rfl
  have e3 : (3 : Int32).toNatClampNeg = 3 := rfl
  have hP := fun k => k_LP (k0 := 1) (a1 := 2) (d := 31) (s := 197) (n := nP) (by decide) (fun _ => rfl) (fun _ => rfl) rfl rfl (fun x hx y hy => by omega) (by decide) n1 k (M := x_h5 C 1 2) (by unfold x_h5; simp (disch := omega) only [x_uo, x_uj, x_us]; exact h1) x_FU 0 (Nat.zero_le _) (by rw [x_FU_eq]; omega)
  have hF := fun k => k_LF (k0 := 1) (a1 := 2) (d := 43) (s := 209) (n := nF) (by decide) (fun _ => rfl) (fun _ => rfl) rfl rfl (fun x hx y hy => by omega) (by decide) n2 k (M := x_cO (x_h5 C 1 2) 31 197 nP 3) (by rw [x_cO_out (by omega)]; unfold x_h5; simp (disch := omega) only [x_uo, x_uj, x_us]; exact h2) x_FU 0 (Nat.zero_le _) (by rw [x_FU_eq]; omega)
  have hD := fun k => k_LD (k0 := 1) (a1 := 2) (d := 139) (s := 305) (n := nD) (by decide) (fun _ => rfl) (fun _ => rfl) rfl rfl (fun x hx y hy => by omega) (by decide) n3 k (M := x_cO (x_cO (x_h5 C 1 2) 31 197 nP 3) 43 209 nF 6) (by rw [x_cO_out (by omega), x_cO_out (by omega)]; unfold x_h5; simp (disch := omega) only [x_uo, x_uj, x_us]; exact h3) x_FU 0 (Nat.zero_le _) (by rw [x_FU_eq]; omega)
  have hJ := fun k => k_LJ (k0 := 1) (a1 := 2) (d := 169) (s := 335) (n := nJ) (by decide) (fun _ => rfl) (fun _ => rfl) rfl rfl (fun x hx y hy => by omega) (by decide) n4 k (M := x_cO (x_cO (x_cO (x_h5 C 1 2) 31 197 nP 3) 43 209 nF 6) 139 305 nD 5) (by rw [x_cO_out (by omega), x_cO_out (by omega), x_cO_out (by omega)]; unfold x_h5; simp (disch := omega) only [x_uo, x_uj, x_us]; exact h4) (fun i hi => by
    have := hz i hi
    have so : ∀ b, x_cO (x_cO (x_cO (x_h5 C 1 2) 31 197 nP 3) 43 209 nF 6) 139 305 nD 5 (335 + i) b = C (335 + i) b := fun b => by
      rw [x_cO_out (by omega), x_cO_out (by omega), x_cO_out (by omega)]
      unfold x_h5
      simp (disch := omega) only [x_uo, x_uj, x_us]
    rw [so, so]
    exact this) x_FU 0 (Nat.zero_le _) (by rw [x_FU_eq]; omega)
  rw [x_cO_0, nI_0] at hP hF hD hJ
  refine Eq.trans (hP _) (Eq.trans (hF _) (Eq.trans (hD _) (Eq.trans (hJ _) ?_)))
  unfold fX3_become
  simp only [x_l, e0, e16, e4, e120, e3]
  rfl
theorem c_becK {C : xM} {nP nF nD nJ : Nat} (h1 : C 1 1 = nI nP) (h2 : C 1 2 = nI nF) (h3 : C 1 3 = nI nD) (h4 : C 1 4 = nI nJ) (n1 : nP ≤ 12) (n2 : nF ≤ 96) (n3 : nD ≤ 30) (n4 : nJ ≤ 16) (hz : ∀ i, i < nJ → (C (169 + i) 8 = 0 ∨ C (169 + i) 8 = 1) ∧ (C (169 + i) 9 = 0 ∨ C (169 + i) 9 = 1)) : fX8_become C 2 1 = some (x_bec C 2 1 166 0 nP nF nD nJ) := by
  unfold fX8_become x_bec
  simp only [x_l]
  have e0 : (0 : Int32).toNatClampNeg = 0 := rfl
  have e16 : (16 : Int32).toNatClampNeg = 16 := rfl
  have e4 : (4 : Int32).toNatClampNeg = 4 := rfl
  have e120 : (120 : Int32).toNatClampNeg = 120 := rfl
  have e3 : (3 : Int32).toNatClampNeg = 3 := rfl
  have hP := fun k => k_LP (k0 := 2) (a1 := 1) (d := 197) (s := 31) (n := nP) (by decide) (fun _ => rfl) (fun _ => rfl) rfl rfl (fun x hx y hy => by omega) (by decide) n1 k (M := x_h5 C 2 1) (by unfold x_h5; simp (disch := omega) only [x_uo, x_uj, x_us]; exact h1) x_FU 0 (Nat.zero_le _) (by rw [x_FU_eq]; omega)
  have hF := fun k => k_LF (k0 := 2) (a1 := 1) (d := 209) (s := 43) (n := nF) (by decide) (fun _ => rfl) (fun _ => rfl) rfl rfl (fun x hx y hy => by omega) (by decide) n2 k (M := x_cO (x_h5 C 2 1) 197 31 nP 3) (by rw [x_cO_out (by omega)]; unfold x_h5; simp (disch := omega) only [x_uo, x_uj, x_us]; exact h2) x_FU 0 (Nat.zero_le _) (by rw [x_FU_eq]; omega)
  have hD := fun k => k_LD (k0 := 2) (a1 := 1) (d := 305) (s := 139) (n := nD) (by decide) (fun _ => rfl) (fun _ => rfl) rfl rfl (fun x hx y hy => by omega) (by decide) n3 k (M := x_cO (x_cO (x_h5 C 2 1) 197 31 nP 3) 209 43 nF 6) (by rw [x_cO_out (by omega), x_cO_out (by omega)]; unfold x_h5; simp (disch := omega) only [x_uo, x_uj, x_us]; exact h3) x_FU 0 (Nat.zero_le _) (by rw [x_FU_eq]; omega)
  have hJ := fun k => k_LJ (k0 := 2) (a1 := 1) (d := 335) (s := 169) (n := nJ) (by decide) (fun _ => rfl) (fun _ => rfl) rfl rfl (fun x hx y hy => by omega) (by decide) n4 k (M := x_cO (x_cO (x_cO (x_h5 C 2 1) 197 31 nP 3) 209 43 nF 6) 305 139 nD 5) (by rw [x_cO_out (by omega), x_cO_out (by omega), x_cO_out (by omega)]; unfold x_h5; simp (disch := omega) only [x_uo, x_uj, x_us]; exact h4) (fun i hi => by
    have := hz i hi
    have so : ∀ b, x_cO (x_cO (x_cO (x_h5 C 2 1) 197 31 nP 3) 209 43 nF 6) 305 139 nD 5 (169 + i) b = C (169 + i) b := fun b => by
      rw [x_cO_out (by omega), x_cO_out (by omega), x_cO_out (by omega)]
      unfold x_h5
      simp (disch := omega) only [x_uo, x_uj, x_us]
    rw [so, so]
    exact this) x_FU 0 (Nat.zero_le _) (by rw [x_FU_eq]; omega)
  rw [x_cO_0, nI_0] at hP hF hD hJ
  refine Eq.trans (hP _) (Eq.trans (hF _) (Eq.trans (hD _) (Eq.trans (hJ _) ?_)))
  unfold fX3_become
  simp only [x_l, e0, e16, e4, e120, e3]
  rfl
