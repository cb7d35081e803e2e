def q_Stp (f g : Option (Int32 × xM)) : Prop := ∃ r C' M', f = some (r, C') ∧ g = some (r, M') ∧ Rel C' M'
theorem q_mk {C1 M1 : xM} {a b : Int32} (e : a = b) (h : Rel C1 M1) : q_Stp (some (a, C1)) (some (b, M1)) := ⟨a, C1, M1, rfl, by rw [e], h⟩
theorem q_same {C M : xM} {f g : Option (Int32 × xM)} {r : Int32} (h : Rel C M) (hf : f = some (r, C)) (hg : g = some (r, M)) : q_Stp f g := ⟨r, C, M, hf, hg, h⟩
theorem l_ltn {a b : Nat} (ha : a < 2 ^ 31) (hb : b < 2 ^ 31) : (nI a < nI b) = (a < b) := propext (nI_ltI ha hb)
theorem l_len {a b : Nat} (ha : a < 2 ^ 31) (hb : b < 2 ^ 31) : (nI a ≤ nI b) = (a ≤ b) := propext (nI_leI ha hb)
theorem l_eqn {a b : Nat} (ha : a < 2 ^ 31) (hb : b < 2 ^ 31) : (nI a = nI b) = (a = b) := propext (nI_eq ha hb)
theorem kn0_lt {a : Nat} (ha : a < 2 ^ 31) : (nI a < (0 : Int32)) = (a < 0) := l_ltn (b := 0) ha (by decide)
theorem kn0_le {a : Nat} (ha : a < 2 ^ 31) : (nI a ≤ (0 : Int32)) = (a ≤ 0) := l_len (b := 0) ha (by decide)
theorem kn0_eq {a : Nat} (ha : a < 2 ^ 31) : (nI a = (0 : Int32)) = (a = 0) := l_eqn (b := 0) ha (by decide)
theorem kn0_tl {a : Nat} (ha : a < 2 ^ 31) : ((0 : Int32) < nI a) = (0 < a) := l_ltn (a := 0) (by decide) ha
theorem kn0_el {a : Nat} (ha : a < 2 ^ 31) : ((0 : Int32) ≤ nI a) = (0 ≤ a) := l_len (a := 0) (by decide) ha
theorem kn0_qe {a : Nat} (ha : a < 2 ^ 31) : ((0 : Int32) = nI a) = (0 = a) := l_eqn (a := 0) (by decide) ha
theorem kn1_lt {a : Nat} (ha : a < 2 ^ 31) : (nI a < (1 : Int32)) = (a < 1) := l_ltn (b := 1) ha (by decide)
theorem kn1_le {a : Nat} (ha : a < 2 ^ 31) : (nI a ≤ (1 : Int32)) = (a ≤ 1) := l_len (b := 1) ha (by decide)
theorem kn1_eq {a : Nat} (ha : a < 2 ^ 31) : (nI a = (1 : Int32)) = (a = 1) := l_eqn (b := 1) ha (by decide)
theorem kn1_tl {a : Nat} (ha : a < 2 ^ 31) : ((1 : Int32) < nI a) = (1 < a) := l_ltn (a := 1) (by decide) ha
theorem kn1_el {a : Nat} (ha : a < 2 ^ 31) : ((1 : Int32) ≤ nI a) = (1 ≤ a) := l_len (a := 1) (by decide) ha
theorem kn1_qe {a : Nat} (ha : a < 2 ^ 31) : ((1 : Int32) = nI a) = (1 = a) := l_eqn (a := 1) (by decide) ha
theorem kn2_lt {a : Nat} (ha : a < 2 ^ 31) : (nI a < (2 : Int32)) = (a < 2) := l_ltn (b := 2) ha (by decide)
theorem kn2_le {a : Nat} (ha : a < 2 ^ 31) : (nI a ≤ (2 : Int32)) = (a ≤ 2) := l_len (b := 2) ha (by decide)
theorem kn2_eq {a : Nat} (ha : a < 2 ^ 31) : (nI a = (2 : Int32)) = (a = 2) := l_eqn (b := 2) ha (by decide)
theorem kn2_tl {a : Nat} (ha : a < 2 ^ 31) : ((2 : Int32) < nI a) = (2 < a) := l_ltn (a := 2) (by decide) ha
theorem kn2_el {a : Nat} (ha : a < 2 ^ 31) : ((2 : Int32) ≤ nI a) = (2 ≤ a) := l_len (a := 2) (by decide) ha
theorem kn2_qe {a : Nat} (ha : a < 2 ^ 31) : ((2 : Int32) = nI a) = (2 = a) := l_eqn (a := 2) (by decide) ha
theorem kn3_lt {a : Nat} (ha : a < 2 ^ 31) : (nI a < (3 : Int32)) = (a < 3) := l_ltn (b := 3) ha (by decide)
theorem kn3_le {a : Nat} (ha : a < 2 ^ 31) : (nI a ≤ (3 : Int32)) = (a ≤ 3) := l_len (b := 3) ha (by decide)
theorem kn3_eq {a : Nat} (ha : a < 2 ^ 31) : (nI a = (3 : Int32)) = (a = 3) := l_eqn (b := 3) ha (by decide)
theorem kn3_tl {a : Nat} (ha : a < 2 ^ 31) : ((3 : Int32) < nI a) = (3 < a) := l_ltn (a := 3) (by decide) ha
theorem kn3_el {a : Nat} (ha : a < 2 ^ 31) : ((3 : Int32) ≤ nI a) = (3 ≤ a) := l_len (a := 3) (by decide) ha
theorem kn3_qe {a : Nat} (ha : a < 2 ^ 31) : ((3 : Int32) = nI a) = (3 = a) := l_eqn (a := 3) (by decide) ha
theorem kn4_lt {a : Nat} (ha : a < 2 ^ 31) : (nI a < (4 : Int32)) = (a < 4) := l_ltn (b := 4) ha (by decide)
theorem kn4_le {a : Nat} (ha : a < 2 ^ 31) : (nI a ≤ (4 : Int32)) = (a ≤ 4) := l_len (b := 4) ha (by decide)
theorem kn4_eq {a : Nat} (ha : a < 2 ^ 31) : (nI a = (4 : Int32)) = (a = 4) := l_eqn (b := 4) ha (by decide)
theorem kn4_tl {a : Nat} (ha : a < 2 ^ 31) : ((4 : Int32) < nI a) = (4 < a) := l_ltn (a := 4) (by decide) ha
theorem kn4_el {a : Nat} (ha : a < 2 ^ 31) : ((4 : Int32) ≤ nI a) = (4 ≤ a) := l_len (a := 4) (by decide) ha
theorem kn4_qe {a : Nat} (ha : a < 2 ^ 31) : ((4 : Int32) = nI a) = (4 = a) := l_eqn (a := 4) (by decide) ha
theorem kn5_lt {a : Nat} (ha : a < 2 ^ 31) : (nI a < (5 : Int32)) = (a < 5) := l_ltn (b := 5) ha (by decide)
theorem kn5_le {a : Nat} (ha : a < 2 ^ 31) : (nI a ≤ (5 : Int32)) = (a ≤ 5) := l_len (b := 5) ha (by decide)
theorem kn5_eq {a : Nat} (ha : a < 2 ^ 31) : (nI a = (5 : Int32)) = (a = 5) := l_eqn (b := 5) ha (by decide)
theorem kn5_tl {a : Nat} (ha : a < 2 ^ 31) : ((5 : Int32) < nI a) = (5 < a) := l_ltn (a := 5) (by decide) ha
theorem kn5_el {a : Nat} (ha : a < 2 ^ 31) : ((5 : Int32) ≤ nI a) = (5 ≤ a) := l_len (a := 5) (by decide) ha
theorem kn5_qe {a : Nat} (ha : a < 2 ^ 31) : ((5 : Int32) = nI a) = (5 = a) := l_eqn (a := 5) (by decide) ha
theorem kn8_lt {a : Nat} (ha : a < 2 ^ 31) : (nI a < (8 : Int32)) = (a < 8) := l_ltn (b := 8) ha (by decide)
theorem kn8_le {a : Nat} (ha : a < 2 ^ 31) : (nI a ≤ (8 : Int32)) = (a ≤ 8) := l_len (b := 8) ha (by decide)
theorem kn8_eq {a : Nat} (ha : a < 2 ^ 31) : (nI a = (8 : Int32)) = (a = 8) := l_eqn (b := 8) ha (by decide)
theorem kn8_tl {a : Nat} (ha : a < 2 ^ 31) : ((8 : Int32) < nI a) = (8 < a) := l_ltn (a := 8) (by decide) ha
theorem kn8_el {a : Nat} (ha : a < 2 ^ 31) : ((8 : Int32) ≤ nI a) = (8 ≤ a) := l_len (a := 8) (by decide) ha
theorem kn8_qe {a : Nat} (ha : a < 2 ^ 31) : ((8 : Int32) = nI a) = (8 = a) := l_eqn (a := 8) (by decide) ha
theorem kn9_lt {a : Nat} (ha : a < 2 ^ 31) : (nI a < (9 : Int32)) = (a < 9) := l_ltn (b := 9) ha (by decide)
theorem kn9_le {a : Nat} (ha : a < 2 ^ 31) : (nI a ≤ (9 : Int32)) = (a ≤ 9) := l_len (b := 9) ha (by decide)
theorem kn9_eq {a : Nat} (ha : a < 2 ^ 31) : (nI a = (9 : Int32)) = (a = 9) := l_eqn (b := 9) ha (by decide)
theorem kn9_tl {a : Nat} (ha : a < 2 ^ 31) : ((9 : Int32) < nI a) = (9 < a) := l_ltn (a := 9) (by decide) ha
theorem kn9_el {a : Nat} (ha : a < 2 ^ 31) : ((9 : Int32) ≤ nI a) = (9 ≤ a) := l_len (a := 9) (by decide) ha
theorem kn9_qe {a : Nat} (ha : a < 2 ^ 31) : ((9 : Int32) = nI a) = (9 = a) := l_eqn (a := 9) (by decide) ha
theorem kn10_lt {a : Nat} (ha : a < 2 ^ 31) : (nI a < (10 : Int32)) = (a < 10) := l_ltn (b := 10) ha (by decide)
theorem kn10_le {a : Nat} (ha : a < 2 ^ 31) : (nI a ≤ (10 : Int32)) = (a ≤ 10) := l_len (b := 10) ha (by decide)
theorem kn10_eq {a : Nat} (ha : a < 2 ^ 31) : (nI a = (10 : Int32)) = (a = 10) := l_eqn (b := 10) ha (by decide)
theorem kn10_tl {a : Nat} (ha : a < 2 ^ 31) : ((10 : Int32) < nI a) = (10 < a) := l_ltn (a := 10) (by decide) ha
theorem kn10_el {a : Nat} (ha : a < 2 ^ 31) : ((10 : Int32) ≤ nI a) = (10 ≤ a) := l_len (a := 10) (by decide) ha
theorem kn10_qe {a : Nat} (ha : a < 2 ^ 31) : ((10 : Int32) = nI a) = (10 = a) := l_eqn (a := 10) (by decide) ha
theorem kn12_lt {a : Nat} (ha : a < 2 ^ 31) : (nI a < (12 : Int32)) = (a < 12) := l_ltn (b := 12) ha (by decide)
theorem kn12_le {a : Nat} (ha : a < 2 ^ 31) : (nI a ≤ (12 : Int32)) = (a ≤ 12) := l_len (b := 12) ha (by decide)
theorem kn12_eq {a : Nat} (ha : a < 2 ^ 31) : (nI a = (12 : Int32)) = (a = 12) := l_eqn (b := 12) ha (by decide)
theorem kn12_tl {a : Nat} (ha : a < 2 ^ 31) : ((12 : Int32) < nI a) = (12 < a) := l_ltn (a := 12) (by decide) ha
theorem kn12_el {a : Nat} (ha : a < 2 ^ 31) : ((12 : Int32) ≤ nI a) = (12 ≤ a) := l_len (a := 12) (by decide) ha
theorem kn12_qe {a : Nat} (ha : a < 2 ^ 31) : ((12 : Int32) = nI a) = (12 = a) := l_eqn (a := 12) (by decide) ha
theorem kn15_lt {a : Nat} (ha : a < 2 ^ 31) : (nI a < (15 : Int32)) = (a < 15) := l_ltn (b := 15) ha (by decide)
theorem kn15_le {a : Nat} (ha : a < 2 ^ 31) : (nI a ≤ (15 : Int32)) = (a ≤ 15) := l_len (b := 15) ha (by decide)
theorem kn15_eq {a : Nat} (ha : a < 2 ^ 31) : (nI a = (15 : Int32)) = (a = 15) := l_eqn (b := 15) ha (by decide)
theorem kn15_tl {a : Nat} (ha : a < 2 ^ 31) : ((15 : Int32) < nI a) = (15 < a) := l_ltn (a := 15) (by decide) ha
theorem kn15_el {a : Nat} (ha : a < 2 ^ 31) : ((15 : Int32) ≤ nI a) = (15 ≤ a) := l_len (a := 15) (by decide) ha
theorem kn15_qe {a : Nat} (ha : a < 2 ^ 31) : ((15 : Int32) = nI a) = (15 = a) := l_eqn (a := 15) (by decide) ha
theorem kn16_lt {a : Nat} (ha : a < 2 ^ 31) : (nI a < (16 : Int32)) = (a < 16) := l_ltn (b := 16) ha (by decide)
theorem kn16_le {a : Nat} (ha : a < 2 ^ 31) : (nI a ≤ (16 : Int32)) = (a ≤ 16) := l_len (b := 16) ha (by decide)
theorem kn16_eq {a : Nat} (ha : a < 2 ^ 31) : (nI a = (16 : Int32)) = (a = 16) := l_eqn (b := 16) ha (by decide)
theorem kn16_tl {a : Nat} (ha : a < 2 ^ 31) : ((16 : Int32) < nI a) = (16 < a) := l_ltn (a := 16) (by decide) ha
theorem kn16_el {a : Nat} (ha : a < 2 ^ 31) : ((16 : Int32) ≤ nI a) = (16 ≤ a) := l_len (a := 16) (by decide) ha
theorem kn16_qe {a : Nat} (ha : a < 2 ^ 31) : ((16 : Int32) = nI a) = (16 = a) := l_eqn (a := 16) (by decide) ha
theorem kn23_lt {a : Nat} (ha : a < 2 ^ 31) : (nI a < (23 : Int32)) = (a < 23) := l_ltn (b := 23) ha (by decide)
theorem kn23_le {a : Nat} (ha : a < 2 ^ 31) : (nI a ≤ (23 : Int32)) = (a ≤ 23) := l_len (b := 23) ha (by decide)
theorem kn23_eq {a : Nat} (ha : a < 2 ^ 31) : (nI a = (23 : Int32)) = (a = 23) := l_eqn (b := 23) ha (by decide)
theorem kn23_tl {a : Nat} (ha : a < 2 ^ 31) : ((23 : Int32) < nI a) = (23 < a) := l_ltn (a := 23) (by decide) ha
theorem kn23_el {a : Nat} (ha : a < 2 ^ 31) : ((23 : Int32) ≤ nI a) = (23 ≤ a) := l_len (a := 23) (by decide) ha
theorem kn23_qe {a : Nat} (ha : a < 2 ^ 31) : ((23 : Int32) = nI a) = (23 = a) := l_eqn (a := 23) (by decide) ha
theorem kn24_lt {a : Nat} (ha : a < 2 ^ 31) : (nI a < (24 : Int32)) = (a < 24) := l_ltn (b := 24) ha (by decide)
theorem kn24_le {a : Nat} (ha : a < 2 ^ 31) : (nI a ≤ (24 : Int32)) = (a ≤ 24) := l_len (b := 24) ha (by decide)
theorem kn24_eq {a : Nat} (ha : a < 2 ^ 31) : (nI a = (24 : Int32)) = (a = 24) := l_eqn (b := 24) ha (by decide)
theorem kn24_tl {a : Nat} (ha : a < 2 ^ 31) : ((24 : Int32) < nI a) = (24 < a) := l_ltn (a := 24) (by decide) ha
theorem kn24_el {a : Nat} (ha : a < 2 ^ 31) : ((24 : Int32) ≤ nI a) = (24 ≤ a) := l_len (a := 24) (by decide) ha
theorem kn24_qe {a : Nat} (ha : a < 2 ^ 31) : ((24 : Int32) = nI a) = (24 = a) := l_eqn (a := 24) (by decide) ha
theorem kn30_lt {a : Nat} (ha : a < 2 ^ 31) : (nI a < (30 : Int32)) = (a < 30) := l_ltn (b := 30) ha (by decide)
theorem kn30_le {a : Nat} (ha : a < 2 ^ 31) : (nI a ≤ (30 : Int32)) = (a ≤ 30) := l_len (b := 30) ha (by decide)
theorem kn30_eq {a : Nat} (ha : a < 2 ^ 31) : (nI a = (30 : Int32)) = (a = 30) := l_eqn (b := 30) ha (by decide)
theorem kn30_tl {a : Nat} (ha : a < 2 ^ 31) : ((30 : Int32) < nI a) = (30 < a) := l_ltn (a := 30) (by decide) ha
theorem kn30_el {a : Nat} (ha : a < 2 ^ 31) : ((30 : Int32) ≤ nI a) = (30 ≤ a) := l_len (a := 30) (by decide) ha
theorem kn30_qe {a : Nat} (ha : a < 2 ^ 31) : ((30 : Int32) = nI a) = (30 = a) := l_eqn (a := 30) (by decide) ha
theorem kn33_lt {a : Nat} (ha : a < 2 ^ 31) : (nI a < (33 : Int32)) = (a < 33) := l_ltn (b := 33) ha (by decide)
theorem kn33_le {a : Nat} (ha : a < 2 ^ 31) : (nI a ≤ (33 : Int32)) = (a ≤ 33) := l_len (b := 33) ha (by decide)
theorem kn33_eq {a : Nat} (ha : a < 2 ^ 31) : (nI a = (33 : Int32)) = (a = 33) := l_eqn (b := 33) ha (by decide)
theorem kn33_tl {a : Nat} (ha : a < 2 ^ 31) : ((33 : Int32) < nI a) = (33 < a) := l_ltn (a := 33) (by decide) ha
theorem kn33_el {a : Nat} (ha : a < 2 ^ 31) : ((33 : Int32) ≤ nI a) = (33 ≤ a) := l_len (a := 33) (by decide) ha
theorem kn33_qe {a : Nat} (ha : a < 2 ^ 31) : ((33 : Int32) = nI a) = (33 = a) := l_eqn (a := 33) (by decide) ha
theorem kn96_lt {a : Nat} (ha : a < 2 ^ 31) : (nI a < (96 : Int32)) = (a < 96) := l_ltn (b := 96) ha (by decide)
theorem kn96_le {a : Nat} (ha : a < 2 ^ 31) : (nI a ≤ (96 : Int32)) = (a ≤ 96) := l_len (b := 96) ha (by decide)
theorem kn96_eq {a : Nat} (ha : a < 2 ^ 31) : (nI a = (96 : Int32)) = (a = 96) := l_eqn (b := 96) ha (by decide)
theorem kn96_tl {a : Nat} (ha : a < 2 ^ 31) : ((96 : Int32) < nI a) = (96 < a) := l_ltn (a := 96) (by decide) ha
theorem kn96_el {a : Nat} (ha : a < 2 ^ 31) : ((96 : Int32) ≤ nI a) = (96 ≤ a) := l_len (a := 96) (by decide) ha
theorem kn96_qe {a : Nat} (ha : a < 2 ^ 31) : ((96 : Int32) = nI a) = (96 = a) := l_eqn (a := 96) (by decide) ha
theorem kn97_lt {a : Nat} (ha : a < 2 ^ 31) : (nI a < (97 : Int32)) = (a < 97) := l_ltn (b := 97) ha (by decide)
theorem kn97_le {a : Nat} (ha : a < 2 ^ 31) : (nI a ≤ (97 : Int32)) = (a ≤ 97) := l_len (b := 97) ha (by decide)
theorem kn97_eq {a : Nat} (ha : a < 2 ^ 31) : (nI a = (97 : Int32)) = (a = 97) := l_eqn (b := 97) ha (by decide)
theorem kn97_tl {a : Nat} (ha : a < 2 ^ 31) : ((97 : Int32) < nI a) = (97 < a) := l_ltn (a := 97) (by decide) ha
theorem kn97_el {a : Nat} (ha : a < 2 ^ 31) : ((97 : Int32) ≤ nI a) = (97 ≤ a) := l_len (a := 97) (by decide) ha
theorem kn97_qe {a : Nat} (ha : a < 2 ^ 31) : ((97 : Int32) = nI a) = (97 = a) := l_eqn (a := 97) (by decide) ha
theorem kn100_lt {a : Nat} (ha : a < 2 ^ 31) : (nI a < (100 : Int32)) = (a < 100) := l_ltn (b := 100) ha (by decide)
theorem kn100_le {a : Nat} (ha : a < 2 ^ 31) : (nI a ≤ (100 : Int32)) = (a ≤ 100) := l_len (b := 100) ha (by decide)
theorem kn100_eq {a : Nat} (ha : a < 2 ^ 31) : (nI a = (100 : Int32)) = (a = 100) := l_eqn (b := 100) ha (by decide)
theorem kn100_tl {a : Nat} (ha : a < 2 ^ 31) : ((100 : Int32) < nI a) = (100 < a) := l_ltn (a := 100) (by decide) ha
theorem kn100_el {a : Nat} (ha : a < 2 ^ 31) : ((100 : Int32) ≤ nI a) = (100 ≤ a) := l_len (a := 100) (by decide) ha
theorem kn100_qe {a : Nat} (ha : a < 2 ^ 31) : ((100 : Int32) = nI a) = (100 = a) := l_eqn (a := 100) (by decide) ha
theorem kn108_lt {a : Nat} (ha : a < 2 ^ 31) : (nI a < (108 : Int32)) = (a < 108) := l_ltn (b := 108) ha (by decide)
theorem kn108_le {a : Nat} (ha : a < 2 ^ 31) : (nI a ≤ (108 : Int32)) = (a ≤ 108) := l_len (b := 108) ha (by decide)
theorem kn108_eq {a : Nat} (ha : a < 2 ^ 31) : (nI a = (108 : Int32)) = (a = 108) := l_eqn (b := 108) ha (by decide)
theorem kn108_tl {a : Nat} (ha : a < 2 ^ 31) : ((108 : Int32) < nI a) = (108 < a) := l_ltn (a := 108) (by decide) ha
theorem kn108_el {a : Nat} (ha : a < 2 ^ 31) : ((108 : Int32) ≤ nI a) = (108 ≤ a) := l_len (a := 108) (by decide) ha
theorem kn108_qe {a : Nat} (ha : a < 2 ^ 31) : ((108 : Int32) = nI a) = (108 = a) := l_eqn (a := 108) (by decide) ha
theorem kn120_lt {a : Nat} (ha : a < 2 ^ 31) : (nI a < (120 : Int32)) = (a < 120) := l_ltn (b := 120) ha (by decide)
theorem kn120_le {a : Nat} (ha : a < 2 ^ 31) : (nI a ≤ (120 : Int32)) = (a ≤ 120) := l_len (b := 120) ha (by decide)
theorem kn120_eq {a : Nat} (ha : a < 2 ^ 31) : (nI a = (120 : Int32)) = (a = 120) := l_eqn (b := 120) ha (by decide)
theorem kn120_tl {a : Nat} (ha : a < 2 ^ 31) : ((120 : Int32) < nI a) = (120 < a) := l_ltn (a := 120) (by decide) ha
theorem kn120_el {a : Nat} (ha : a < 2 ^ 31) : ((120 : Int32) ≤ nI a) = (120 ≤ a) := l_len (a := 120) (by decide) ha
theorem kn120_qe {a : Nat} (ha : a < 2 ^ 31) : ((120 : Int32) = nI a) = (120 = a) := l_eqn (a := 120) (by decide) ha
theorem kn121_lt {a : Nat} (ha : a < 2 ^ 31) : (nI a < (121 : Int32)) = (a < 121) := l_ltn (b := 121) ha (by decide)
theorem kn121_le {a : Nat} (ha : a < 2 ^ 31) : (nI a ≤ (121 : Int32)) = (a ≤ 121) := l_len (b := 121) ha (by decide)
theorem kn121_eq {a : Nat} (ha : a < 2 ^ 31) : (nI a = (121 : Int32)) = (a = 121) := l_eqn (b := 121) ha (by decide)
theorem kn121_tl {a : Nat} (ha : a < 2 ^ 31) : ((121 : Int32) < nI a) = (121 < a) := l_ltn (a := 121) (by decide) ha
theorem kn121_el {a : Nat} (ha : a < 2 ^ 31) : ((121 : Int32) ≤ nI a) = (121 ≤ a) := l_len (a := 121) (by decide) ha
theorem kn121_qe {a : Nat} (ha : a < 2 ^ 31) : ((121 : Int32) = nI a) = (121 = a) := l_eqn (a := 121) (by decide) ha
theorem kn122_lt {a : Nat} (ha : a < 2 ^ 31) : (nI a < (122 : Int32)) = (a < 122) := l_ltn (b := 122) ha (by decide)
theorem kn122_le {a : Nat} (ha : a < 2 ^ 31) : (nI a ≤ (122 : Int32)) = (a ≤ 122) := l_len (b := 122) ha (by decide)
theorem kn122_eq {a : Nat} (ha : a < 2 ^ 31) : (nI a = (122 : Int32)) = (a = 122) := l_eqn (b := 122) ha (by decide)
theorem kn122_tl {a : Nat} (ha : a < 2 ^ 31) : ((122 : Int32) < nI a) = (122 < a) := l_ltn (a := 122) (by decide) ha
theorem kn122_el {a : Nat} (ha : a < 2 ^ 31) : ((122 : Int32) ≤ nI a) = (122 ≤ a) := l_len (a := 122) (by decide) ha
theorem kn122_qe {a : Nat} (ha : a < 2 ^ 31) : ((122 : Int32) = nI a) = (122 = a) := l_eqn (a := 122) (by decide) ha
theorem kn128_lt {a : Nat} (ha : a < 2 ^ 31) : (nI a < (128 : Int32)) = (a < 128) := l_ltn (b := 128) ha (by decide)
theorem kn128_le {a : Nat} (ha : a < 2 ^ 31) : (nI a ≤ (128 : Int32)) = (a ≤ 128) := l_len (b := 128) ha (by decide)
theorem kn128_eq {a : Nat} (ha : a < 2 ^ 31) : (nI a = (128 : Int32)) = (a = 128) := l_eqn (b := 128) ha (by decide)
theorem kn128_tl {a : Nat} (ha : a < 2 ^ 31) : ((128 : Int32) < nI a) = (128 < a) := l_ltn (a := 128) (by decide) ha
theorem kn128_el {a : Nat} (ha : a < 2 ^ 31) : ((128 : Int32) ≤ nI a) = (128 ≤ a) := l_len (a := 128) (by decide) ha
theorem kn128_qe {a : Nat} (ha : a < 2 ^ 31) : ((128 : Int32) = nI a) = (128 = a) := l_eqn (a := 128) (by decide) ha
theorem kn130_lt {a : Nat} (ha : a < 2 ^ 31) : (nI a < (130 : Int32)) = (a < 130) := l_ltn (b := 130) ha (by decide)
theorem kn130_le {a : Nat} (ha : a < 2 ^ 31) : (nI a ≤ (130 : Int32)) = (a ≤ 130) := l_len (b := 130) ha (by decide)
theorem kn130_eq {a : Nat} (ha : a < 2 ^ 31) : (nI a = (130 : Int32)) = (a = 130) := l_eqn (b := 130) ha (by decide)
theorem kn130_tl {a : Nat} (ha : a < 2 ^ 31) : ((130 : Int32) < nI a) = (130 < a) := l_ltn (a := 130) (by decide) ha
theorem kn130_el {a : Nat} (ha : a < 2 ^ 31) : ((130 : Int32) ≤ nI a) = (130 ≤ a) := l_len (a := 130) (by decide) ha
theorem kn130_qe {a : Nat} (ha : a < 2 ^ 31) : ((130 : Int32) = nI a) = (130 = a) := l_eqn (a := 130) (by decide) ha
theorem kn999_lt {a : Nat} (ha : a < 2 ^ 31) : (nI a < (999 : Int32)) = (a < 999) := l_ltn (b := 999) ha (by decide)
theorem kn999_le {a : Nat} (ha : a < 2 ^ 31) : (nI a ≤ (999 : Int32)) = (a ≤ 999) := l_len (b := 999) ha (by decide)
theorem kn999_eq {a : Nat} (ha : a < 2 ^ 31) : (nI a = (999 : Int32)) = (a = 999) := l_eqn (b := 999) ha (by decide)
theorem kn999_tl {a : Nat} (ha : a < 2 ^ 31) : ((999 : Int32) < nI a) = (999 < a) := l_ltn (a := 999) (by decide) ha
theorem kn999_el {a : Nat} (ha : a < 2 ^ 31) : ((999 : Int32) ≤ nI a) = (999 ≤ a) := l_len (a := 999) (by decide) ha
theorem kn999_qe {a : Nat} (ha : a < 2 ^ 31) : ((999 : Int32) = nI a) = (999 = a) := l_eqn (a := 999) (by decide) ha
theorem kn1675_lt {a : Nat} (ha : a < 2 ^ 31) : (nI a < (1675 : Int32)) = (a < 1675) := l_ltn (b := 1675) ha (by decide)
theorem kn1675_le {a : Nat} (ha : a < 2 ^ 31) : (nI a ≤ (1675 : Int32)) = (a ≤ 1675) := l_len (b := 1675) ha (by decide)
theorem kn1675_eq {a : Nat} (ha : a < 2 ^ 31) : (nI a = (1675 : Int32)) = (a = 1675) := l_eqn (b := 1675) ha (by decide)
theorem kn1675_tl {a : Nat} (ha : a < 2 ^ 31) : ((1675 : Int32) < nI a) = (1675 < a) := l_ltn (a := 1675) (by decide) ha
theorem kn1675_el {a : Nat} (ha : a < 2 ^ 31) : ((1675 : Int32) ≤ nI a) = (1675 ≤ a) := l_len (a := 1675) (by decide) ha
theorem kn1675_qe {a : Nat} (ha : a < 2 ^ 31) : ((1675 : Int32) = nI a) = (1675 = a) := l_eqn (a := 1675) (by decide) ha
theorem kn3000_lt {a : Nat} (ha : a < 2 ^ 31) : (nI a < (3000 : Int32)) = (a < 3000) := l_ltn (b := 3000) ha (by decide)
theorem kn3000_le {a : Nat} (ha : a < 2 ^ 31) : (nI a ≤ (3000 : Int32)) = (a ≤ 3000) := l_len (b := 3000) ha (by decide)
theorem kn3000_eq {a : Nat} (ha : a < 2 ^ 31) : (nI a = (3000 : Int32)) = (a = 3000) := l_eqn (b := 3000) ha (by decide)
theorem kn3000_tl {a : Nat} (ha : a < 2 ^ 31) : ((3000 : Int32) < nI a) = (3000 < a) := l_ltn (a := 3000) (by decide) ha
theorem kn3000_el {a : Nat} (ha : a < 2 ^ 31) : ((3000 : Int32) ≤ nI a) = (3000 ≤ a) := l_len (a := 3000) (by decide) ha
theorem kn3000_qe {a : Nat} (ha : a < 2 ^ 31) : ((3000 : Int32) = nI a) = (3000 = a) := l_eqn (a := 3000) (by decide) ha
theorem kn9999_lt {a : Nat} (ha : a < 2 ^ 31) : (nI a < (9999 : Int32)) = (a < 9999) := l_ltn (b := 9999) ha (by decide)
theorem kn9999_le {a : Nat} (ha : a < 2 ^ 31) : (nI a ≤ (9999 : Int32)) = (a ≤ 9999) := l_len (b := 9999) ha (by decide)
theorem kn9999_eq {a : Nat} (ha : a < 2 ^ 31) : (nI a = (9999 : Int32)) = (a = 9999) := l_eqn (b := 9999) ha (by decide)
theorem kn9999_tl {a : Nat} (ha : a < 2 ^ 31) : ((9999 : Int32) < nI a) = (9999 < a) := l_ltn (a := 9999) (by decide) ha
theorem kn9999_el {a : Nat} (ha : a < 2 ^ 31) : ((9999 : Int32) ≤ nI a) = (9999 ≤ a) := l_len (a := 9999) (by decide) ha
theorem kn9999_qe {a : Nat} (ha : a < 2 ^ 31) : ((9999 : Int32) = nI a) = (9999 = a) := l_eqn (a := 9999) (by decide) ha
theorem kn99999_lt {a : Nat} (ha : a < 2 ^ 31) : (nI a < (99999 : Int32)) = (a < 99999) := l_ltn (b := 99999) ha (by decide)
theorem kn99999_le {a : Nat} (ha : a < 2 ^ 31) : (nI a ≤ (99999 : Int32)) = (a ≤ 99999) := l_len (b := 99999) ha (by decide)
theorem kn99999_eq {a : Nat} (ha : a < 2 ^ 31) : (nI a = (99999 : Int32)) = (a = 99999) := l_eqn (b := 99999) ha (by decide)
theorem kn99999_tl {a : Nat} (ha : a < 2 ^ 31) : ((99999 : Int32) < nI a) = (99999 < a) := l_ltn (a := 99999) (by decide) ha
theorem kn99999_el {a : Nat} (ha : a < 2 ^ 31) : ((99999 : Int32) ≤ nI a) = (99999 ≤ a) := l_len (a := 99999) (by decide) ha
theorem kn99999_qe {a : Nat} (ha : a < 2 ^ 31) : ((99999 : Int32) = nI a) = (99999 = a) := l_eqn (a := 99999) (by decide) ha
theorem kn9999999_lt {a : Nat} (ha : a < 2 ^ 31) : (nI a < (9999999 : Int32)) = (a < 9999999) := l_ltn (b := 9999999) ha (by decide)
theorem kn9999999_le {a : Nat} (ha : a < 2 ^ 31) : (nI a ≤ (9999999 : Int32)) = (a ≤ 9999999) := l_len (b := 9999999) ha (by decide)
theorem kn9999999_eq {a : Nat} (ha : a < 2 ^ 31) : (nI a = (9999999 : Int32)) = (a = 9999999) := l_eqn (b := 9999999) ha (by decide)
theorem kn9999999_tl {a : Nat} (ha : a < 2 ^ 31) : ((9999999 : Int32) < nI a) = (9999999 < a) := l_ltn (a := 9999999) (by decide) ha
theorem kn9999999_el {a : Nat} (ha : a < 2 ^ 31) : ((9999999 : Int32) ≤ nI a) = (9999999 ≤ a) := l_len (a := 9999999) (by decide) ha
theorem kn9999999_qe {a : Nat} (ha : a < 2 ^ 31) : ((9999999 : Int32) = nI a) = (9999999 = a) := l_eqn (a := 9999999) (by decide) ha
/-- no number from 0 on is -1 -/
theorem l_neg {a : Nat} (ha : a < 2 ^ 31) : (nI a = (-1 : Int32)) = False := by
  refine propext ⟨fun e => ?_, False.elim⟩
  have := nI_pos' ha
  rw [e] at this
  exact absurd this (by decide)
theorem l_neg' {a : Nat} (ha : a < 2 ^ 31) : ((-1 : Int32) = nI a) = False := by
  exact (propext ⟨Eq.symm, Eq.symm⟩).trans (l_neg ha)
theorem l_has {a : Int32} {n : Nat} (hn : n < 2 ^ 31) : (0 ≤ a ∧ a ≤ nI n - 1) = ∃ i, i < n ∧ a = nI i := propext (u_has hn)
/-- the state that is now, and the rest -/
theorem Rel.mk {C M : xM} {nP nF nD nJ t : Nat} (h1 : r_St 1 0 C (M 1) nP nF nD nJ t) (h2 : r_law 0 C (M 1)) (h3 : i_St (M 1) nP nF nD nJ t) (h4 : r_Rest C M) : Rel C M := ⟨⟨nP, nF, nD, nJ, t, h1, h2, h3⟩, h4⟩
theorem r_law.keepS {b : Nat} {C C' : xM} {s s' : Nat → Int32} (h : r_law b C s) (h1 : ∀ a j, (a = 25 + b ∨ a = 26 + b ∨ a = 27 + b) → C' a j = C a j) (h2 : s' 21 = s 21) (h3 : ∀ j, s' (952 + j) = s (952 + j)) : r_law b C' s' := by
  rcases h with ⟨a2, a3⟩ | ⟨a2, a3, a4⟩
  · exact Or.inl ⟨by rw [h2]; exact a2, by rw [h1 _ _ (Or.inl rfl)]; exact a3⟩
  · exact Or.inr ⟨by rw [h2]; exact a2, by rw [h1 _ _ (Or.inl rfl)]; exact a3, a4.keep (fun j => h1 _ j (Or.inr (Or.inl rfl))) (fun j => h1 _ j (Or.inr (Or.inr rfl))) h3⟩
theorem x_uo {M : xM} {k j : Nat} {v : Int32} {a b : Nat} (h : a ≠ k) : x_up M k j v a b = M a b := by rw [x_up_at, if_neg h]
theorem x_uj {M : xM} {k j : Nat} {v : Int32} {b : Nat} (h : b ≠ j) : x_up M k j v k b = M k b := by rw [x_up_at, if_pos rfl, if_neg h]
theorem x_us {M : xM} {k j : Nat} {v : Int32} : x_up M k j v k j = v := by rw [x_up_at, if_pos rfl, if_pos rfl]
theorem q_ite {C M : xM} {f g : Option (Int32 × xM)} {r : Int32} {c : Prop} {i1 i2 : Decidable (¬ c)} (h : Rel C M) (k : c → q_Stp f g) : q_Stp (@ite _ (¬ c) i1 (some (r, C)) f) (@ite _ (¬ c) i2 (some (r, M)) g) := by
  by_cases hc : c
  · rw [if_neg (not_not_intro hc), if_neg (not_not_intro hc)]
    exact k hc
  · rw [if_pos hc, if_pos hc]
    exact q_same h rfl rfl
theorem q_itp {C M : xM} {f g : Option (Int32 × xM)} {r : Int32} {c : Prop} {i1 i2 : Decidable c} (h : Rel C M) (k : ¬ c → q_Stp f g) : q_Stp (@ite _ c i1 (some (r, C)) f) (@ite _ c i2 (some (r, M)) g) := by
  by_cases hc : c
  · rw [if_pos hc, if_pos hc]
    exact q_same h rfl rfl
  · rw [if_neg hc, if_neg hc]
    exact k hc
theorem c_kindP (M : xM) (k : Nat) (a : Int32) : fX4_isOfKind M k a = some ((if a = 0 ∨ a = M k 0 ∨ (a = 1 ∧ M k 0 = 2) then 1 else 0), M) := by
  unfold fX4_isOfKind x_l
  grind
theorem c_kindD (M : xM) (k : Nat) (a : Int32) : fX0_isOfKind M k a = some ((if a = 0 ∨ a = M k 0 ∨ (a = 2 ∧ M k 0 = 3) then 1 else 0), M) := by
  unfold fX0_isOfKind x_l
  grind
theorem p_isYoung (M : xM) {i : Nat} (hi : i < 12) : fX11_isYoung M (nI i) = some ((if 1 ≤ M 1 (30 + 3 * i) ∧ M 1 (30 + 3 * i) ≤ 2 then 1 else 0), M) := by
  unfold fX11_isYoung
  simp (disch := omega) only [u_3, u_6, u_5, u_10, u_1, u_24, u_a1, u_a2, u_a3, u_a4, u_a5, u_a6, u_a7, u_a8, u_m1, u_g, u_c, p_in, x_b_some, x_z_if]
theorem c_coupled (M : xM) (k : Nat) : fX4_isCoupled M k = some ((if M k 1 = -1 then 0 else 1), M) := by
  unfold fX4_isCoupled
  split <;> rfl
theorem u_if1 (c : Prop) [Decidable c] : ((if c then 0 else 1 : Int32) = 0) = c := by
  split <;> simp_all
theorem u_ifs {c : Prop} {i : Decidable c} {a b : Int32} {M : xM} : (if c then some (a, M) else some (b, M)) = some ((if c then a else b), M) := by
  split <;> rfl
theorem nI_k3 {k : Nat} (h : k ≤ 3) : nI k = 0 ∨ nI k = 1 ∨ nI k = 2 ∨ nI k = 3 := by
  rcases (show k = 0 ∨ k = 1 ∨ k = 2 ∨ k = 3 by omega) with rfl | rfl | rfl | rfl <;> simp [nI]
theorem q_ck {C M : xM} {f g : Option (Int32 × xM)} {r : Int32} {c c' : Prop} {i1 : Decidable c} {i2 : Decidable c'} (h : Rel C M) (e : c ↔ c') (k : c → q_Stp f g) : q_Stp (if (if c then 1 else 0 : Int32) = 0 then some (r, C) else f) (if (if c' then 1 else 0 : Int32) = 0 then some (r, M) else g) := by
  by_cases hc : c
  · rw [if_pos hc, if_pos (e.mp hc), if_neg (by decide), if_neg (by decide)]
    exact k hc
  · rw [if_neg hc, if_neg (fun z => hc (e.mpr z)), if_pos rfl, if_pos rfl]
    exact q_same h rfl rfl
theorem q_itn {C M : xM} {f g : Option (Int32 × xM)} {r : Int32} {c : Prop} {i1 i2 : Decidable c} (h : Rel C M) (k : c → q_Stp f g) : q_Stp (@ite _ c i1 f (some (r, C))) (@ite _ c i2 g (some (r, M))) := by
  by_cases hc : c
  · rw [if_pos hc, if_pos hc]
    exact k hc
  · rw [if_neg hc, if_neg hc]
    exact q_same h rfl rfl
