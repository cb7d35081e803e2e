/-! the memories at the beginning, and that they are related -/
def c0r (k : Nat) : Nat → Int32 := match xk 0 k with
  | 4 => fun j => [0, -1, 0].getD j 0
  | 0 => fun j => [0, 0, 0, 1, -1].getD j 0
  | 6 => fun j => [0, 0, 0, 0, 0, 0, -1, 0].getD j 0
  | 13 => upd (upd (fun _ => 0) (0 : Int32).toNatClampNeg 1) (1 : Int32).toNatClampNeg 1
  | _ => if k = 23 ∨ k = 189 then x_first else fun _ => 0
def C0 : xM := c0r
def M0 : xM := fun k => if k = 1 then mS 16 else if k = 14 then upd (upd (fun _ => 0) (0 : Int32).toNatClampNeg (-1)) (1 : Int32).toNatClampNeg (-1) else fun _ => 0
theorem bb_R : ∀ j, j < 16 → nI (x_first j).toNatClampNeg ≤ x_most j ∧ (x_first j).toNatClampNeg ≤ 99999 ∧ M0 1 (1 + j) = nI (x_first j).toNatClampNeg := by decide +kernel
theorem bb_L : ∀ j, j < 4 → C0 (24 + 0) j = M0 1 (24 + j) ∧ M0 1 (24 + j) = nI 0 := by decide +kernel
theorem bb_U : ∀ j, j < 16 → C0 (23 + 0) j = M0 1 (1 + j) := by decide +kernel
theorem Rel0 : Rel C0 M0 := by
  refine ⟨⟨0, 0, 0, 0, 0, ⟨⟨⟨by decide, by decide, by decide, by decide, by decide⟩, ⟨by decide, by decide, by decide, by decide, by decide⟩, by decide⟩, fun i hi => absurd hi (Nat.not_lt_zero i), fun i hi => absurd hi (Nat.not_lt_zero i), fun i hi => absurd hi (Nat.not_lt_zero i), fun i hi => absurd hi (Nat.not_lt_zero i), bb_U, fun j hj => (bb_L j hj).1⟩, Or.inl ⟨by decide, by decide⟩, fun i hi => absurd hi (Nat.not_lt_zero i), fun i hi => absurd hi (Nat.not_lt_zero i), fun i hi => absurd hi (Nat.not_lt_zero i), ⟨fun i hi => absurd hi (Nat.not_lt_zero i), fun i j _ hj => absurd hj (Nat.not_lt_zero j)⟩, fun j hj => ⟨_, bb_R j hj⟩, fun j hj => ⟨0, by decide, (bb_L j hj).2⟩⟩, Or.inl ⟨by decide, by decide⟩, ⟨0, by decide, by decide, by decide, fun i hi => absurd hi (Nat.not_lt_zero i)⟩, ⟨0, by decide, by decide, by decide, fun i hi => absurd hi (Nat.not_lt_zero i)⟩, Or.inl ⟨by decide, by decide⟩, Or.inl ⟨by decide, by decide⟩⟩
/-! where the cells lie -/
def sg0 (k : Nat) : Nat := if k < 19 then [0, 1, 168, 335, 342, 345, 346, 349, 350, 347, 348, 336, 338, 341, 337, 339, 340, 343, 344].getD k 0 else if k < 185 then k - 17 else k - 16
def sg0i (i : Nat) : Nat := if i = 0 then 0 else if i = 1 then 1 else if i < 168 then i + 17 else if i = 168 then 2 else if i < 335 then i + 16 else [3, 11, 14, 12, 15, 16, 13, 4, 17, 18, 5, 6, 9, 10, 7, 8].getD (i - 335) 0
theorem sg0_inv : ∀ k, k < 351 → sg0i (sg0 k) = k ∧ sg0 k < 351 := by decide +kernel
def z0 (g : xG) (b : Nat) : xG := (g.1, g.2.1, fun k => b + sg0 k, g.2.2.2)
def z1 (g : xG) (b : Nat) : xG := (g.1, g.2.1, fun k => b + k, g.2.2.2)
theorem z0_inj (g : xG) (b : Nat) : x_inj (z0 g b) 0 := by
  intro i j hi hj h
  have h2 : sg0 i = sg0 j := Nat.add_left_cancel h
  rw [← (sg0_inv i hi).1, ← (sg0_inv j hj).1, h2]
theorem z1_inj (g : xG) (b : Nat) : x_inj (z1 g b) 1 := fun i j _ _ h => Nat.add_left_cancel h
theorem arrV_cg {c : ClassId} {n : Nat} {f f' : Nat → Value} (h : ∀ j, j < n → f j = f' j) : arrV c n f = arrV c n f' := by
  unfold arrV
  congr 1
  exact congrArg Array.ofFn (funext fun j => h j.val j.isLt)
def sg_eq (e e' : va_E) : Prop := ∀ (D : va_G) (a : Nat) (H : Heap), va_at D vwCl (a, e) H → va_at D vwCl (a, e') H
theorem sg_eq.of {e e' : va_E} (h : e = e') : sg_eq e e' := fun _ _ _ x => h ▸ x
theorem sg_eq.q {c : ClassId} {n : Nat} {f f' : Nat → Option Nat} (h : ∀ j, j < n → f j = f' j) : sg_eq (.inl (c, n, .inr (.inr (.inr (.inr f))))) (.inl (c, n, .inr (.inr (.inr (.inr f'))))) := fun _ _ _ x => by
  show _ = some (vp_cell _ _)
  rw [vp_cell_q, arrV_cg (f' := fun j => va_rf (f j)) (fun j hj => by rw [h j hj])]
  exact x
theorem w0_0 (g : xG) (b : Nat) : sg_eq (eX10 g b (sg0 0)) (x_E (z0 g b) 0 C0 0) := sg_eq.of rfl
theorem w0_1 (g : xG) (b : Nat) : sg_eq (eX10 g b (sg0 1)) (x_E (z0 g b) 0 C0 1) := sg_eq.of rfl
theorem w0_2 (g : xG) (b : Nat) : sg_eq (eX10 g b (sg0 2)) (x_E (z0 g b) 0 C0 2) := sg_eq.of rfl
theorem w0_3 (g : xG) (b : Nat) : sg_eq (eX10 g b (sg0 3)) (x_E (z0 g b) 0 C0 3) := sg_eq.of rfl
theorem w0_4 (g : xG) (b : Nat) : sg_eq (eX10 g b (sg0 4)) (x_E (z0 g b) 0 C0 4) := sg_eq.of rfl
theorem w0_5 (g : xG) (b : Nat) : sg_eq (eX10 g b (sg0 5)) (x_E (z0 g b) 0 C0 5) := sg_eq.of rfl
theorem w0_6 (g : xG) (b : Nat) : sg_eq (eX10 g b (sg0 6)) (x_E (z0 g b) 0 C0 6) := sg_eq.q (fun j hj => by
  rcases (show j = 0 ∨ j = 1 by omega) with rfl | rfl <;> rfl)
theorem w0_7 (g : xG) (b : Nat) : sg_eq (eX10 g b (sg0 7)) (x_E (z0 g b) 0 C0 7) := sg_eq.of rfl
theorem w0_8 (g : xG) (b : Nat) : sg_eq (eX10 g b (sg0 8)) (x_E (z0 g b) 0 C0 8) := sg_eq.of rfl
theorem w0_9 (g : xG) (b : Nat) : sg_eq (eX10 g b (sg0 9)) (x_E (z0 g b) 0 C0 9) := sg_eq.of rfl
theorem w0_10 (g : xG) (b : Nat) : sg_eq (eX10 g b (sg0 10)) (x_E (z0 g b) 0 C0 10) := sg_eq.of rfl
theorem w0_11 (g : xG) (b : Nat) : sg_eq (eX10 g b (sg0 11)) (x_E (z0 g b) 0 C0 11) := sg_eq.of rfl
theorem w0_12 (g : xG) (b : Nat) : sg_eq (eX10 g b (sg0 12)) (x_E (z0 g b) 0 C0 12) := sg_eq.of rfl
theorem w0_13 (g : xG) (b : Nat) : sg_eq (eX10 g b (sg0 13)) (x_E (z0 g b) 0 C0 13) := sg_eq.of rfl
theorem w0_14 (g : xG) (b : Nat) : sg_eq (eX10 g b (sg0 14)) (x_E (z0 g b) 0 C0 14) := sg_eq.of rfl
theorem w0_15 (g : xG) (b : Nat) : sg_eq (eX10 g b (sg0 15)) (x_E (z0 g b) 0 C0 15) := sg_eq.of rfl
theorem w0_16 (g : xG) (b : Nat) : sg_eq (eX10 g b (sg0 16)) (x_E (z0 g b) 0 C0 16) := sg_eq.of rfl
theorem w0_17 (g : xG) (b : Nat) : sg_eq (eX10 g b (sg0 17)) (x_E (z0 g b) 0 C0 17) := sg_eq.of rfl
theorem w0_18 (g : xG) (b : Nat) : sg_eq (eX10 g b (sg0 18)) (x_E (z0 g b) 0 C0 18) := sg_eq.of rfl
theorem w0_19 (g : xG) (b : Nat) : sg_eq (eX10 g b (sg0 19)) (x_E (z0 g b) 0 C0 19) := sg_eq.q (f := sg_q (b + 1) 12 13) (f' := fun j => some (b + sg0 (xr 0 19 j))) (n := 12) (fun j hj => by
  have e : xr 0 19 j = 31 + j := rfl
  show sg_q (b + 1) 12 13 j = some (b + sg0 (xr 0 19 j))
  unfold sg_q sg0
  rw [e, if_pos hj]
  simp (disch := omega) only [if_neg, if_pos]
  congr 1
  omega)
theorem w0_20 (g : xG) (b : Nat) : sg_eq (eX10 g b (sg0 20)) (x_E (z0 g b) 0 C0 20) := sg_eq.q (f := sg_q (b + 1) 96 25) (f' := fun j => some (b + sg0 (xr 0 20 j))) (n := 96) (fun j hj => by
  have e : xr 0 20 j = 43 + j := rfl
  show sg_q (b + 1) 96 25 j = some (b + sg0 (xr 0 20 j))
  unfold sg_q sg0
  rw [e, if_pos hj]
  simp (disch := omega) only [if_neg, if_pos]
  congr 1
  omega)
theorem w0_21 (g : xG) (b : Nat) : sg_eq (eX10 g b (sg0 21)) (x_E (z0 g b) 0 C0 21) := sg_eq.q (f := sg_q (b + 1) 30 121) (f' := fun j => some (b + sg0 (xr 0 21 j))) (n := 30) (fun j hj => by
  have e : xr 0 21 j = 139 + j := rfl
  show sg_q (b + 1) 30 121 j = some (b + sg0 (xr 0 21 j))
  unfold sg_q sg0
  rw [e, if_pos hj]
  simp (disch := omega) only [if_neg, if_pos]
  congr 1
  omega)
theorem w0_22 (g : xG) (b : Nat) : sg_eq (eX10 g b (sg0 22)) (x_E (z0 g b) 0 C0 22) := sg_eq.q (f := sg_q (b + 1) 16 151) (f' := fun j => some (b + sg0 (xr 0 22 j))) (n := 16) (fun j hj => by
  have e : xr 0 22 j = 169 + j := rfl
  show sg_q (b + 1) 16 151 j = some (b + sg0 (xr 0 22 j))
  unfold sg_q sg0
  rw [e, if_pos hj]
  simp (disch := omega) only [if_neg, if_pos]
  congr 1
  omega)
theorem w0_23 (g : xG) (b : Nat) : sg_eq (eX10 g b (sg0 23)) (x_E (z0 g b) 0 C0 23) := sg_eq.of rfl
theorem w0_24 (g : xG) (b : Nat) : sg_eq (eX10 g b (sg0 24)) (x_E (z0 g b) 0 C0 24) := sg_eq.of rfl
theorem w0_25 (g : xG) (b : Nat) : sg_eq (eX10 g b (sg0 25)) (x_E (z0 g b) 0 C0 25) := sg_eq.of rfl
theorem w0_26 (g : xG) (b : Nat) : sg_eq (eX10 g b (sg0 26)) (x_E (z0 g b) 0 C0 26) := sg_eq.of rfl
theorem w0_27 (g : xG) (b : Nat) : sg_eq (eX10 g b (sg0 27)) (x_E (z0 g b) 0 C0 27) := sg_eq.of rfl
theorem w0_28 (g : xG) (b : Nat) : sg_eq (eX10 g b (sg0 28)) (x_E (z0 g b) 0 C0 28) := sg_eq.of rfl
theorem w0_29 (g : xG) (b : Nat) : sg_eq (eX10 g b (sg0 29)) (x_E (z0 g b) 0 C0 29) := sg_eq.of rfl
theorem w0_30 (g : xG) (b : Nat) : sg_eq (eX10 g b (sg0 30)) (x_E (z0 g b) 0 C0 30) := sg_eq.of rfl
theorem w0_185 (g : xG) (b : Nat) : sg_eq (eX10 g b (sg0 185)) (x_E (z0 g b) 0 C0 185) := sg_eq.q (f := sg_q (b + 168) 12 13) (f' := fun j => some (b + sg0 (xr 0 185 j))) (n := 12) (fun j hj => by
  have e : xr 0 185 j = 197 + j := rfl
  show sg_q (b + 168) 12 13 j = some (b + sg0 (xr 0 185 j))
  unfold sg_q sg0
  rw [e, if_pos hj]
  simp (disch := omega) only [if_neg, if_pos]
  congr 1
  omega)
theorem w0_186 (g : xG) (b : Nat) : sg_eq (eX10 g b (sg0 186)) (x_E (z0 g b) 0 C0 186) := sg_eq.q (f := sg_q (b + 168) 96 25) (f' := fun j => some (b + sg0 (xr 0 186 j))) (n := 96) (fun j hj => by
  have e : xr 0 186 j = 209 + j := rfl
  show sg_q (b + 168) 96 25 j = some (b + sg0 (xr 0 186 j))
  unfold sg_q sg0
  rw [e, if_pos hj]
  simp (disch := omega) only [if_neg, if_pos]
  congr 1
  omega)
theorem w0_187 (g : xG) (b : Nat) : sg_eq (eX10 g b (sg0 187)) (x_E (z0 g b) 0 C0 187) := sg_eq.q (f := sg_q (b + 168) 30 121) (f' := fun j => some (b + sg0 (xr 0 187 j))) (n := 30) (fun j hj => by
  have e : xr 0 187 j = 305 + j := rfl
  show sg_q (b + 168) 30 121 j = some (b + sg0 (xr 0 187 j))
  unfold sg_q sg0
  rw [e, if_pos hj]
  simp (disch := omega) only [if_neg, if_pos]
  congr 1
  omega)
theorem w0_188 (g : xG) (b : Nat) : sg_eq (eX10 g b (sg0 188)) (x_E (z0 g b) 0 C0 188) := sg_eq.q (f := sg_q (b + 168) 16 151) (f' := fun j => some (b + sg0 (xr 0 188 j))) (n := 16) (fun j hj => by
  have e : xr 0 188 j = 335 + j := rfl
  show sg_q (b + 168) 16 151 j = some (b + sg0 (xr 0 188 j))
  unfold sg_q sg0
  rw [e, if_pos hj]
  simp (disch := omega) only [if_neg, if_pos]
  congr 1
  omega)
theorem w0_189 (g : xG) (b : Nat) : sg_eq (eX10 g b (sg0 189)) (x_E (z0 g b) 0 C0 189) := sg_eq.of rfl
theorem w0_190 (g : xG) (b : Nat) : sg_eq (eX10 g b (sg0 190)) (x_E (z0 g b) 0 C0 190) := sg_eq.of rfl
theorem w0_191 (g : xG) (b : Nat) : sg_eq (eX10 g b (sg0 191)) (x_E (z0 g b) 0 C0 191) := sg_eq.of rfl
theorem w0_192 (g : xG) (b : Nat) : sg_eq (eX10 g b (sg0 192)) (x_E (z0 g b) 0 C0 192) := sg_eq.of rfl
theorem w0_193 (g : xG) (b : Nat) : sg_eq (eX10 g b (sg0 193)) (x_E (z0 g b) 0 C0 193) := sg_eq.of rfl
theorem w0_194 (g : xG) (b : Nat) : sg_eq (eX10 g b (sg0 194)) (x_E (z0 g b) 0 C0 194) := sg_eq.of rfl
theorem w0_195 (g : xG) (b : Nat) : sg_eq (eX10 g b (sg0 195)) (x_E (z0 g b) 0 C0 195) := sg_eq.of rfl
theorem w0_196 (g : xG) (b : Nat) : sg_eq (eX10 g b (sg0 196)) (x_E (z0 g b) 0 C0 196) := sg_eq.of rfl
theorem xk_4_0 : ∀ k, k < 43 → 31 ≤ k → xk 0 k = 4 := by decide +kernel
theorem wr_4_0 (g : xG) (b k : Nat) (h1 : 31 ≤ k) (h2 : k < 43) : sg_eq (eX10 g b (sg0 k)) (x_E (z0 g b) 0 C0 k) := by
  refine sg_eq.of ?_
  have hk : xk 0 k = 4 := xk_4_0 k h2 h1
  rw [x_Eo (sh := 0) ⟨by show k < 351; omega, hk⟩ (by decide)]
  unfold C0 c0r
  rw [hk]
  unfold sg0 eX10 eS8 eS
  simp (disch := omega) only [if_neg, if_pos]
  rfl
theorem xk_4_1 : ∀ k, k < 209 → 197 ≤ k → xk 0 k = 4 := by decide +kernel
theorem wr_4_1 (g : xG) (b k : Nat) (h1 : 197 ≤ k) (h2 : k < 209) : sg_eq (eX10 g b (sg0 k)) (x_E (z0 g b) 0 C0 k) := by
  refine sg_eq.of ?_
  have hk : xk 0 k = 4 := xk_4_1 k h2 h1
  rw [x_Eo (sh := 0) ⟨by show k < 351; omega, hk⟩ (by decide)]
  unfold C0 c0r
  rw [hk]
  unfold sg0 eX10 eS8 eS
  simp (disch := omega) only [if_neg, if_pos]
  rfl
theorem xk_1_0 : ∀ k, k < 139 → 43 ≤ k → xk 0 k = 1 := by decide +kernel
theorem wr_1_0 (g : xG) (b k : Nat) (h1 : 43 ≤ k) (h2 : k < 139) : sg_eq (eX10 g b (sg0 k)) (x_E (z0 g b) 0 C0 k) := by
  refine sg_eq.of ?_
  have hk : xk 0 k = 1 := xk_1_0 k h2 h1
  rw [x_Eo (sh := 0) ⟨by show k < 351; omega, hk⟩ (by decide)]
  unfold C0 c0r
  rw [hk]
  unfold sg0 eX10 eS8 eS
  simp (disch := omega) only [if_neg, if_pos]
  rfl
theorem xk_1_1 : ∀ k, k < 305 → 209 ≤ k → xk 0 k = 1 := by decide +kernel
theorem wr_1_1 (g : xG) (b k : Nat) (h1 : 209 ≤ k) (h2 : k < 305) : sg_eq (eX10 g b (sg0 k)) (x_E (z0 g b) 0 C0 k) := by
  refine sg_eq.of ?_
  have hk : xk 0 k = 1 := xk_1_1 k h2 h1
  rw [x_Eo (sh := 0) ⟨by show k < 351; omega, hk⟩ (by decide)]
  unfold C0 c0r
  rw [hk]
  unfold sg0 eX10 eS8 eS
  simp (disch := omega) only [if_neg, if_pos]
  rfl
theorem xk_0_0 : ∀ k, k < 169 → 139 ≤ k → xk 0 k = 0 := by decide +kernel
theorem wr_0_0 (g : xG) (b k : Nat) (h1 : 139 ≤ k) (h2 : k < 169) : sg_eq (eX10 g b (sg0 k)) (x_E (z0 g b) 0 C0 k) := by
  refine sg_eq.of ?_
  have hk : xk 0 k = 0 := xk_0_0 k h2 h1
  rw [x_Eo (sh := 0) ⟨by show k < 351; omega, hk⟩ (by decide)]
  unfold C0 c0r
  rw [hk]
  unfold sg0 eX10 eS8 eS
  simp (disch := omega) only [if_neg, if_pos]
  rfl
theorem xk_0_1 : ∀ k, k < 335 → 305 ≤ k → xk 0 k = 0 := by decide +kernel
theorem wr_0_1 (g : xG) (b k : Nat) (h1 : 305 ≤ k) (h2 : k < 335) : sg_eq (eX10 g b (sg0 k)) (x_E (z0 g b) 0 C0 k) := by
  refine sg_eq.of ?_
  have hk : xk 0 k = 0 := xk_0_1 k h2 h1
  rw [x_Eo (sh := 0) ⟨by show k < 351; omega, hk⟩ (by decide)]
  unfold C0 c0r
  rw [hk]
  unfold sg0 eX10 eS8 eS
  simp (disch := omega) only [if_neg, if_pos]
  rfl
theorem xk_2_0 : ∀ k, k < 185 → 169 ≤ k → xk 0 k = 2 := by decide +kernel
theorem wr_2_0 (g : xG) (b k : Nat) (h1 : 169 ≤ k) (h2 : k < 185) : sg_eq (eX10 g b (sg0 k)) (x_E (z0 g b) 0 C0 k) := by
  refine sg_eq.of ?_
  have hk : xk 0 k = 2 := xk_2_0 k h2 h1
  rw [x_Eo (sh := 0) ⟨by show k < 351; omega, hk⟩ (by decide)]
  unfold C0 c0r
  rw [hk]
  unfold sg0 eX10 eS8 eS
  simp (disch := omega) only [if_neg, if_pos]
  rfl
theorem xk_2_1 : ∀ k, k < 351 → 335 ≤ k → xk 0 k = 2 := by decide +kernel
theorem wr_2_1 (g : xG) (b k : Nat) (h1 : 335 ≤ k) (h2 : k < 351) : sg_eq (eX10 g b (sg0 k)) (x_E (z0 g b) 0 C0 k) := by
  refine sg_eq.of ?_
  have hk : xk 0 k = 2 := xk_2_1 k h2 h1
  rw [x_Eo (sh := 0) ⟨by show k < 351; omega, hk⟩ (by decide)]
  unfold C0 c0r
  rw [hk]
  unfold sg0 eX10 eS8 eS
  simp (disch := omega) only [if_neg, if_pos]
  rfl
theorem w0_all (g : xG) (b k : Nat) (h : k < 351) : sg_eq (eX10 g b (sg0 k)) (x_E (z0 g b) 0 C0 k) := by
  by_cases a1 : k < 31
  · match k, a1 with
    | 0, _ => exact w0_0 g b
    | 1, _ => exact w0_1 g b
    | 2, _ => exact w0_2 g b
    | 3, _ => exact w0_3 g b
    | 4, _ => exact w0_4 g b
    | 5, _ => exact w0_5 g b
    | 6, _ => exact w0_6 g b
    | 7, _ => exact w0_7 g b
    | 8, _ => exact w0_8 g b
    | 9, _ => exact w0_9 g b
    | 10, _ => exact w0_10 g b
    | 11, _ => exact w0_11 g b
    | 12, _ => exact w0_12 g b
    | 13, _ => exact w0_13 g b
    | 14, _ => exact w0_14 g b
    | 15, _ => exact w0_15 g b
    | 16, _ => exact w0_16 g b
    | 17, _ => exact w0_17 g b
    | 18, _ => exact w0_18 g b
    | 19, _ => exact w0_19 g b
    | 20, _ => exact w0_20 g b
    | 21, _ => exact w0_21 g b
    | 22, _ => exact w0_22 g b
    | 23, _ => exact w0_23 g b
    | 24, _ => exact w0_24 g b
    | 25, _ => exact w0_25 g b
    | 26, _ => exact w0_26 g b
    | 27, _ => exact w0_27 g b
    | 28, _ => exact w0_28 g b
    | 29, _ => exact w0_29 g b
    | 30, _ => exact w0_30 g b
    | k + 31, q => exact absurd q (by omega)
  · by_cases a2 : k < 43
    · exact wr_4_0 g b k (by omega) a2
    · by_cases a3 : k < 139
      · exact wr_1_0 g b k (by omega) a3
      · by_cases a4 : k < 169
        · exact wr_0_0 g b k (by omega) a4
        · by_cases a5 : k < 185
          · exact wr_2_0 g b k (by omega) a5
          · by_cases a6 : k < 197
            · obtain ⟨j, rfl⟩ : ∃ j, k = 185 + j := ⟨k - 185, by omega⟩
              have hj : j < 12 := by omega
              match j, hj with
              | 0, _ => exact w0_185 g b
              | 1, _ => exact w0_186 g b
              | 2, _ => exact w0_187 g b
              | 3, _ => exact w0_188 g b
              | 4, _ => exact w0_189 g b
              | 5, _ => exact w0_190 g b
              | 6, _ => exact w0_191 g b
              | 7, _ => exact w0_192 g b
              | 8, _ => exact w0_193 g b
              | 9, _ => exact w0_194 g b
              | 10, _ => exact w0_195 g b
              | 11, _ => exact w0_196 g b
              | j + 12, q => exact absurd q (by omega)
            · by_cases c0 : k < 209
              · exact wr_4_1 g b k (by omega) c0
              · by_cases c1 : k < 305
                · exact wr_1_1 g b k (by omega) c1
                · by_cases c2 : k < 335
                  · exact wr_0_1 g b k (by omega) c2
                  · exact wr_2_1 g b k (by omega) h
theorem z0_P (g : xG) (b : Nat) (H : Heap) (h : ∀ i, i < 351 → va_at g.1 vwCl (b + i, eX10 g b i) H) : va_P (z0 g b).1 vwCl (x_W (z0 g b) 0 C0) H := by
  intro k q hq
  have hl : k < 351 := by
    have := (List.getElem?_eq_some_iff.mp hq).1
    unfold x_W at this
    rwa [List.length_map, List.length_range] at this
  rw [x_W_get (sh := 0) hl] at hq
  cases hq
  exact w0_all g b k hl _ _ _ (h (sg0 k) (sg0_inv k hl).2)
theorem w1_all (g : xG) (b k : Nat) (h : k < 16) : eX11 g b k = x_E (z1 g b) 1 M0 k := by
  match k, h with
  | 0, _ => rfl
  | 1, _ => rfl
  | 2, _ => rfl
  | 3, _ => rfl
  | 4, _ => rfl
  | 5, _ => rfl
  | 6, _ => rfl
  | 7, _ => rfl
  | 8, _ => rfl
  | 9, _ => rfl
  | 10, _ => rfl
  | 11, _ => rfl
  | 12, _ => rfl
  | 13, _ => rfl
  | 14, _ => rfl
  | 15, _ => rfl
  | k + 16, q => exact absurd q (by omega)
theorem z1_P (g : xG) (b : Nat) (H : Heap) (h : ∀ i, i < 17 → va_at g.1 vwCl (b + i, eX11 g b i) H) : va_P (z1 g b).1 vwCl (x_W (z1 g b) 1 M0) H := by
  intro k q hq
  have hl : k < 16 := by
    have := (List.getElem?_eq_some_iff.mp hq).1
    unfold x_W at this
    rwa [List.length_map, List.length_range] at this
  rw [x_W_get (sh := 1) hl] at hq
  cases hq
  rw [← w1_all g b k hl]
  exact h k (by omega)
