theorem lo_X8 : sg_lO RX8 3 := ⟨x_mem (i := 73) (by decide +kernel) (by decide +kernel), x_mem (i := 66) (by decide +kernel) (by decide +kernel), x_mem (i := 67) (by decide +kernel) (by decide +kernel)⟩
theorem li_X8_68 : sg_lN RX8 68 yX3_init "DayFines" cX3_init 1 := ⟨List.mem_of_getElem? (i := 93) (by decide +kernel), x_mem (i := 94) (by decide +kernel) (by decide +kernel), x_mem (i := 43) (by decide +kernel) (by decide +kernel), x_mem (i := 95) (by decide +kernel) (by decide +kernel), rfl, by decide +kernel, by decide +kernel, by decide +kernel⟩
theorem li_X8_75 : sg_lN RX8 75 yX7_init "DayFines" cX7_init 1 := ⟨List.mem_of_getElem? (i := 120) (by decide +kernel), x_mem (i := 121) (by decide +kernel) (by decide +kernel), x_mem (i := 44) (by decide +kernel) (by decide +kernel), x_mem (i := 122) (by decide +kernel) (by decide +kernel), rfl, by decide +kernel, by decide +kernel, by decide +kernel⟩
theorem li_X8_80 : sg_lN RX8 80 yX4_init "DayFines" cX4_init 1 := ⟨List.mem_of_getElem? (i := 132) (by decide +kernel), x_mem (i := 133) (by decide +kernel) (by decide +kernel), x_mem (i := 45) (by decide +kernel) (by decide +kernel), x_mem (i := 134) (by decide +kernel) (by decide +kernel), rfl, by decide +kernel, by decide +kernel, by decide +kernel⟩
theorem li_X8_81 : sg_lN RX8 81 yX1_init "DayFines" cX1_init 1 := ⟨List.mem_of_getElem? (i := 151) (by decide +kernel), x_mem (i := 152) (by decide +kernel) (by decide +kernel), x_mem (i := 46) (by decide +kernel) (by decide +kernel), x_mem (i := 153) (by decide +kernel) (by decide +kernel), rfl, by decide +kernel, by decide +kernel, by decide +kernel⟩
theorem li_X8_82 : sg_lN RX8 82 yX0_init "DayFines" cX0_init 1 := ⟨List.mem_of_getElem? (i := 177) (by decide +kernel), x_mem (i := 178) (by decide +kernel) (by decide +kernel), x_mem (i := 47) (by decide +kernel) (by decide +kernel), x_mem (i := 179) (by decide +kernel) (by decide +kernel), rfl, by decide +kernel, by decide +kernel, by decide +kernel⟩
theorem li_X8_83 : sg_lN RX8 83 yX2_init "DayFines" cX2_init 1 := ⟨List.mem_of_getElem? (i := 208) (by decide +kernel), x_mem (i := 209) (by decide +kernel) (by decide +kernel), x_mem (i := 48) (by decide +kernel) (by decide +kernel), x_mem (i := 210) (by decide +kernel) (by decide +kernel), rfl, by decide +kernel, by decide +kernel, by decide +kernel⟩
def eK (g : xG) (b : Nat) : Nat → va_E := fun i => match i with
  | 0 => .inr (8, [.int (0), .int (0), .int (0), .int (0), .int (0), .ref (b + 1), .ref (b + 2), .ref (b + 3), .ref (b + 4), .ref (b + 5), .ref (b + 6), .ref (b + 7), .ref (b + 10)])
  | 5 => .inl (g.2.1 0, 16, .inl x_first)
  | 6 => .inl (g.2.1 0, 4, .inl (fun _ => 0))
  | 7 => .inr (3, [.ref (b + 8), .ref (b + 9), .int (0), .int (0)])
  | 8 => .inl (g.2.1 0, 120, .inl (fun _ => 0))
  | 9 => .inl (g.2.1 0, 3, .inl (fun _ => 0))
  | 10 => .inr (7, [.ref (b + 11), .ref (b + 12)])
  | 11 => .inl (g.2.1 0, 26, .inl (fun _ => 0))
  | _ => .inl (g.2.1 0, 120, .inl (fun _ => 0))
def eS (g : xG) (b np nf nd nj : Nat) : Nat → va_E := fun i => if i = 1 then .inl (g.2.1 5, 12, .inr (.inr (.inr (.inr (sg_q b np 13))))) else if i = 2 then .inl (g.2.1 3, 96, .inr (.inr (.inr (.inr (sg_q b nf 25))))) else if i = 3 then .inl (g.2.1 2, 30, .inr (.inr (.inr (.inr (sg_q b nd 121))))) else if i = 4 then .inl (g.2.1 4, 16, .inr (.inr (.inr (.inr (sg_q b nj 151))))) else if i < 13 then eK g b i else if i < 25 then .inr (4, [.int (0), .int (-1), .int (0)]) else if i < 121 then .inr (1, [.int (0), .int (0), .int (0), .int (0), .int (0), .int (0)]) else if i < 151 then .inr (0, [.int (0), .int (0), .int (0), .int (1), .int (-1)]) else .inr (2, [.int (0), .int (0), .int (0), .int (0), .int (0), .int (0), .int (0), .int (0), .int (0), .int (0)])
section KS
variable {p : Program} {l : Launch} {e : Env} {s : State} {m : MethodId} {args : Array Value} {below : List Frame} {meth : Method} {c : Code} {Q : State → Prop} {g : xG} {b : Nat}
set_option maxRecDepth 100000 in
set_option maxHeartbeats 4000000 in
theorem kS1 (C : sg_C g b p s m args meth c cX8_init 2 RX8) (kk : ∀ (H : Heap) (locs : List Loc) (ls : Array Slot), sg_w g b (13 + 12) (eS g b 12 0 0 0) s H locs → lv_has ls 2 [(0, .ref b)] → W p l e (sg_rm 2 32 166 1371) s m args below meth c H locs (12 + 12) (449 + 3 * 12) Q (F0 m 134 ls [])) :
    ∀ (k i : Nat) (H : Heap) (locs : List Loc) (ls : Array Slot), i ≤ 12 → 12 ≤ i + k → sg_w g b (13 + i) (eS g b i 0 0 0) s H locs → lv_has ls 2 [(1, .int (nI i)), (0, .ref b)] → W p l e (sg_rm 2 32 166 1371) s m args below meth c H locs (12 + i) (449 + 3 * i) Q (F0 m 109 ls []) := by
  obtain ⟨hx, hb, -⟩ := id C
  have exit : ∀ (H : Heap) (locs : List Loc) (ls : Array Slot), sg_w g b (13 + 12) (eS g b 12 0 0 0) s H locs → lv_has ls 2 [(1, .int (nI 12)), (0, .ref b)] → W p l e (sg_rm 2 32 166 1371) s m args below meth c H locs (12 + 12) (449 + 3 * 12) Q (F0 m 109 ls []) := by
    intro H locs ls hw hl
    refine lv_iload_n hx hb dX8_init_109 rfl (lv_at hl 0 rfl) ?_
    refine lv_bipush (v := (12 : Int32)) hx hb dX8_init_110 (by decide) ?_
    exact lv_icmp_ge (tgt := 134) hx hb dX8_init_112 (by decide) (fun _ => kk H locs ls hw (lv_sub hl [1] rfl)) (fun q => absurd (by decide) q)
  intro k
  induction k with
  | zero =>
    intro i H locs ls h1 h2 hw hl
    have hi : i = 12 := by omega
    subst hi
    exact exit H locs ls hw hl
  | succ k ih =>
    intro i H locs ls h1 h2 hw hl
    by_cases hi : i = 12
    · subst hi
      exact exit H locs ls hw hl
    · have hlt : i < 12 := by omega
      refine lv_iload_n hx hb dX8_init_109 rfl (lv_at hl 0 rfl) ?_
      refine lv_bipush (v := (12 : Int32)) hx hb dX8_init_110 (by decide) ?_
      refine lv_icmp_ge (tgt := 134) hx hb dX8_init_112 (by decide) (fun q => absurd q (nI_ge (b := 12) hlt (by decide))) (fun _ => ?_)
      refine lv_aload_n hx hb dX8_init_115 rfl (lv_at hl 1 rfl) ?_
      refine sg_geti (i := 0) (ci := 8) (j := 5) (N := 13) (T := TX8) (v := .ref (b + 1)) C hw rfl wi_X8 (by decide) (by omega) rfl rfl (x_mem (i := 270) (by decide +kernel) (by decide +kernel)) dX8_init_116 ?_
      refine lv_iload_n hx hb dX8_init_119 rfl (lv_at hl 0 rfl) ?_
      refine sg_new (n := 13 + i) (ci := 4) (N := 3) (T := TX4) (ty := tyX4) (fs := [.int 0, .int 0, .int 0]) C hw rfl wi_X4 tyX4_ok (x_mem (i := 74) (by decide +kernel) (by decide +kernel)) (x_mem (i := 131) (by decide +kernel) (by decide +kernel)) (x_mem (i := 45) (by decide +kernel) (by decide +kernel)) (by decide) (by show 12 + i + 1 ≤ 166; omega) (by show 449 + 3 * i + 3 ≤ 1371; omega) dX8_init_120 (fun H hw => ?_)
      refine lv_dup hx hb dX8_init_123 rfl ?_
      refine sg_iN (n := 13 + i) (n1 := 1) C hw hl.1 [.ref (b + (13 + i)), .int (nI i), .ref (b + 1)] (if_pos rfl) (kX4 l g) li_X8_80 ⟨Nat.le_of_ble_eq_true rfl, Nat.le_of_ble_eq_true rfl⟩ (Nat.le_of_ble_eq_true rfl) ⟨by show 12 + i + 1 + 0 ≤ 166; omega, by show 449 + 3 * i + 3 + 0 ≤ 1371; omega⟩ dX8_init_124 (fun H locs hw => ?_)
      refine sg_ast (i := 1) (k := 13 + i) (t := 5) (N := 12) (f := sg_q b i 13) (ci := 4) (r := (RX4, TX4, 3)) (vs := [.int (0), .int (-1), .int (0)]) C hw (by omega) (by simp only [sg_jn, sg_up]; rw [if_pos (by omega), if_neg (by omega)]; rfl) rfl (by omega) (by simp only [sg_jn]; rw [if_neg (by omega), Nat.sub_self]; rfl) rfl (vp_in_nI hlt (by decide)) dX8_init_127 (fun H locs hw => ?_)
      have hw : sg_w g b (13 + (i + 1)) (eS g b (i + 1) 0 0 0) s H locs := by
        refine hw.to (fun k hk => ?_)
        simp only [sg_up, sg_jn]
        by_cases h1 : k = 1
        · subst h1
          rw [if_pos rfl, nI_clamp (by omega), sg_q_up]
          rfl
        · rw [if_neg h1]
          by_cases h2 : k < 13 + i
          · rw [if_pos h2, if_neg (by omega)]
            simp only [eS, if_neg h1]
          · rw [if_neg h2]
            have h3 : k = 13 + i := by omega
            subst h3
            rw [Nat.sub_self]
            unfold eS
            simp (disch := omega) only [if_neg, if_pos]
            rfl
      refine lv_iinc (v := nI (i + 1)) (lv' := [(1, .int (nI (i + 1))), (0, .ref b)]) hx hb dX8_init_128 hl (k := 0) rfl (nI_1 i) (by decide) rfl (fun ls hl => ?_)
      refine lv_goto (tgt := 109) hx hb dX8_init_131 (by decide) ?_
      have hW := ih (i + 1) H locs ls (by omega) (by omega) hw hl
      rw [show 449 + 3 * (i + 1) = 449 + 3 * i + 3 + 0 by omega] at hW
      exact hW
set_option maxRecDepth 100000 in
set_option maxHeartbeats 4000000 in
theorem kS2 (C : sg_C g b p s m args meth c cX8_init 2 RX8) (kk : ∀ (H : Heap) (locs : List Loc) (ls : Array Slot), sg_w g b (25 + 96) (eS g b 12 96 0 0) s H locs → lv_has ls 2 [(0, .ref b)] → W p l e (sg_rm 2 32 166 1371) s m args below meth c H locs (24 + 96) (485 + 6 * 96) Q (F0 m 161 ls [])) :
    ∀ (k i : Nat) (H : Heap) (locs : List Loc) (ls : Array Slot), i ≤ 96 → 96 ≤ i + k → sg_w g b (25 + i) (eS g b 12 i 0 0) s H locs → lv_has ls 2 [(1, .int (nI i)), (0, .ref b)] → W p l e (sg_rm 2 32 166 1371) s m args below meth c H locs (24 + i) (485 + 6 * i) Q (F0 m 136 ls []) := by
  obtain ⟨hx, hb, -⟩ := id C
  have exit : ∀ (H : Heap) (locs : List Loc) (ls : Array Slot), sg_w g b (25 + 96) (eS g b 12 96 0 0) s H locs → lv_has ls 2 [(1, .int (nI 96)), (0, .ref b)] → W p l e (sg_rm 2 32 166 1371) s m args below meth c H locs (24 + 96) (485 + 6 * 96) Q (F0 m 136 ls []) := by
    intro H locs ls hw hl
    refine lv_iload_n hx hb dX8_init_136 rfl (lv_at hl 0 rfl) ?_
    refine lv_bipush (v := (96 : Int32)) hx hb dX8_init_137 (by decide) ?_
    exact lv_icmp_ge (tgt := 161) hx hb dX8_init_139 (by decide) (fun _ => kk H locs ls hw (lv_sub hl [1] rfl)) (fun q => absurd (by decide) q)
  intro k
  induction k with
  | zero =>
    intro i H locs ls h1 h2 hw hl
    have hi : i = 96 := by omega
    subst hi
    exact exit H locs ls hw hl
  | succ k ih =>
    intro i H locs ls h1 h2 hw hl
    by_cases hi : i = 96
    · subst hi
      exact exit H locs ls hw hl
    · have hlt : i < 96 := by omega
      refine lv_iload_n hx hb dX8_init_136 rfl (lv_at hl 0 rfl) ?_
      refine lv_bipush (v := (96 : Int32)) hx hb dX8_init_137 (by decide) ?_
      refine lv_icmp_ge (tgt := 161) hx hb dX8_init_139 (by decide) (fun q => absurd q (nI_ge (b := 96) hlt (by decide))) (fun _ => ?_)
      refine lv_aload_n hx hb dX8_init_142 rfl (lv_at hl 1 rfl) ?_
      refine sg_geti (i := 0) (ci := 8) (j := 6) (N := 13) (T := TX8) (v := .ref (b + 2)) C hw rfl wi_X8 (by decide) (by omega) rfl rfl (x_mem (i := 272) (by decide +kernel) (by decide +kernel)) dX8_init_143 ?_
      refine lv_iload_n hx hb dX8_init_146 rfl (lv_at hl 0 rfl) ?_
      refine sg_new (n := 25 + i) (ci := 1) (N := 6) (T := TX1) (ty := tyX1) (fs := [.int 0, .int 0, .int 0, .int 0, .int 0, .int 0]) C hw rfl wi_X1 tyX1_ok (x_mem (i := 76) (by decide +kernel) (by decide +kernel)) (x_mem (i := 150) (by decide +kernel) (by decide +kernel)) (x_mem (i := 46) (by decide +kernel) (by decide +kernel)) (by decide) (by show 24 + i + 1 ≤ 166; omega) (by show 485 + 6 * i + 6 ≤ 1371; omega) dX8_init_147 (fun H hw => ?_)
      refine lv_dup hx hb dX8_init_150 rfl ?_
      refine sg_iN (n := 25 + i) (n1 := 1) C hw hl.1 [.ref (b + (25 + i)), .int (nI i), .ref (b + 2)] (if_pos rfl) (kX1 l g) li_X8_81 ⟨Nat.le_of_ble_eq_true rfl, Nat.le_of_ble_eq_true rfl⟩ (Nat.le_of_ble_eq_true rfl) ⟨by show 24 + i + 1 + 0 ≤ 166; omega, by show 485 + 6 * i + 6 + 0 ≤ 1371; omega⟩ dX8_init_151 (fun H locs hw => ?_)
      refine sg_ast (i := 2) (k := 25 + i) (t := 3) (N := 96) (f := sg_q b i 25) (ci := 1) (r := (RX1, TX1, 6)) (vs := [.int (0), .int (0), .int (0), .int (0), .int (0), .int (0)]) C hw (by omega) (by simp only [sg_jn, sg_up]; rw [if_pos (by omega), if_neg (by omega)]; rfl) rfl (by omega) (by simp only [sg_jn]; rw [if_neg (by omega), Nat.sub_self]; rfl) rfl (vp_in_nI hlt (by decide)) dX8_init_154 (fun H locs hw => ?_)
      have hw : sg_w g b (25 + (i + 1)) (eS g b 12 (i + 1) 0 0) s H locs := by
        refine hw.to (fun k hk => ?_)
        simp only [sg_up, sg_jn]
        by_cases h1 : k = 2
        · subst h1
          rw [if_pos rfl, nI_clamp (by omega), sg_q_up]
          rfl
        · rw [if_neg h1]
          by_cases h2 : k < 25 + i
          · rw [if_pos h2, if_neg (by omega)]
            simp only [eS, if_neg h1]
          · rw [if_neg h2]
            have h3 : k = 25 + i := by omega
            subst h3
            rw [Nat.sub_self]
            unfold eS
            simp (disch := omega) only [if_neg, if_pos]
            rfl
      refine lv_iinc (v := nI (i + 1)) (lv' := [(1, .int (nI (i + 1))), (0, .ref b)]) hx hb dX8_init_155 hl (k := 0) rfl (nI_1 i) (by decide) rfl (fun ls hl => ?_)
      refine lv_goto (tgt := 136) hx hb dX8_init_158 (by decide) ?_
      have hW := ih (i + 1) H locs ls (by omega) (by omega) hw hl
      rw [show 485 + 6 * (i + 1) = 485 + 6 * i + 6 + 0 by omega] at hW
      exact hW
set_option maxRecDepth 100000 in
set_option maxHeartbeats 4000000 in
theorem kS3 (C : sg_C g b p s m args meth c cX8_init 2 RX8) (kk : ∀ (H : Heap) (locs : List Loc) (ls : Array Slot), sg_w g b (121 + 30) (eS g b 12 96 30 0) s H locs → lv_has ls 2 [(0, .ref b)] → W p l e (sg_rm 2 32 166 1371) s m args below meth c H locs (120 + 30) (1061 + 5 * 30) Q (F0 m 188 ls [])) :
    ∀ (k i : Nat) (H : Heap) (locs : List Loc) (ls : Array Slot), i ≤ 30 → 30 ≤ i + k → sg_w g b (121 + i) (eS g b 12 96 i 0) s H locs → lv_has ls 2 [(1, .int (nI i)), (0, .ref b)] → W p l e (sg_rm 2 32 166 1371) s m args below meth c H locs (120 + i) (1061 + 5 * i) Q (F0 m 163 ls []) := by
  obtain ⟨hx, hb, -⟩ := id C
  have exit : ∀ (H : Heap) (locs : List Loc) (ls : Array Slot), sg_w g b (121 + 30) (eS g b 12 96 30 0) s H locs → lv_has ls 2 [(1, .int (nI 30)), (0, .ref b)] → W p l e (sg_rm 2 32 166 1371) s m args below meth c H locs (120 + 30) (1061 + 5 * 30) Q (F0 m 163 ls []) := by
    intro H locs ls hw hl
    refine lv_iload_n hx hb dX8_init_163 rfl (lv_at hl 0 rfl) ?_
    refine lv_bipush (v := (30 : Int32)) hx hb dX8_init_164 (by decide) ?_
    exact lv_icmp_ge (tgt := 188) hx hb dX8_init_166 (by decide) (fun _ => kk H locs ls hw (lv_sub hl [1] rfl)) (fun q => absurd (by decide) q)
  intro k
  induction k with
  | zero =>
    intro i H locs ls h1 h2 hw hl
    have hi : i = 30 := by omega
    subst hi
    exact exit H locs ls hw hl
  | succ k ih =>
    intro i H locs ls h1 h2 hw hl
    by_cases hi : i = 30
    · subst hi
      exact exit H locs ls hw hl
    · have hlt : i < 30 := by omega
      refine lv_iload_n hx hb dX8_init_163 rfl (lv_at hl 0 rfl) ?_
      refine lv_bipush (v := (30 : Int32)) hx hb dX8_init_164 (by decide) ?_
      refine lv_icmp_ge (tgt := 188) hx hb dX8_init_166 (by decide) (fun q => absurd q (nI_ge (b := 30) hlt (by decide))) (fun _ => ?_)
      refine lv_aload_n hx hb dX8_init_169 rfl (lv_at hl 1 rfl) ?_
      refine sg_geti (i := 0) (ci := 8) (j := 7) (N := 13) (T := TX8) (v := .ref (b + 3)) C hw rfl wi_X8 (by decide) (by omega) rfl rfl (x_mem (i := 274) (by decide +kernel) (by decide +kernel)) dX8_init_170 ?_
      refine lv_iload_n hx hb dX8_init_173 rfl (lv_at hl 0 rfl) ?_
      refine sg_new (n := 121 + i) (ci := 0) (N := 5) (T := TX0) (ty := tyX0) (fs := [.int 0, .int 0, .int 0, .int 0, .int 0]) C hw rfl wi_X0 tyX0_ok (x_mem (i := 78) (by decide +kernel) (by decide +kernel)) (x_mem (i := 176) (by decide +kernel) (by decide +kernel)) (x_mem (i := 47) (by decide +kernel) (by decide +kernel)) (by decide) (by show 120 + i + 1 ≤ 166; omega) (by show 1061 + 5 * i + 5 ≤ 1371; omega) dX8_init_174 (fun H hw => ?_)
      refine lv_dup hx hb dX8_init_177 rfl ?_
      refine sg_iN (n := 121 + i) (n1 := 1) C hw hl.1 [.ref (b + (121 + i)), .int (nI i), .ref (b + 3)] (if_pos rfl) (kX0 l g) li_X8_82 ⟨Nat.le_of_ble_eq_true rfl, Nat.le_of_ble_eq_true rfl⟩ (Nat.le_of_ble_eq_true rfl) ⟨by show 120 + i + 1 + 0 ≤ 166; omega, by show 1061 + 5 * i + 5 + 0 ≤ 1371; omega⟩ dX8_init_178 (fun H locs hw => ?_)
      refine sg_ast (i := 3) (k := 121 + i) (t := 2) (N := 30) (f := sg_q b i 121) (ci := 0) (r := (RX0, TX0, 5)) (vs := [.int (0), .int (0), .int (0), .int (1), .int (-1)]) C hw (by omega) (by simp only [sg_jn, sg_up]; rw [if_pos (by omega), if_neg (by omega)]; rfl) rfl (by omega) (by simp only [sg_jn]; rw [if_neg (by omega), Nat.sub_self]; rfl) rfl (vp_in_nI hlt (by decide)) dX8_init_181 (fun H locs hw => ?_)
      have hw : sg_w g b (121 + (i + 1)) (eS g b 12 96 (i + 1) 0) s H locs := by
        refine hw.to (fun k hk => ?_)
        simp only [sg_up, sg_jn]
        by_cases h1 : k = 3
        · subst h1
          rw [if_pos rfl, nI_clamp (by omega), sg_q_up]
          rfl
        · rw [if_neg h1]
          by_cases h2 : k < 121 + i
          · rw [if_pos h2, if_neg (by omega)]
            simp only [eS, if_neg h1]
          · rw [if_neg h2]
            have h3 : k = 121 + i := by omega
            subst h3
            rw [Nat.sub_self]
            unfold eS
            simp (disch := omega) only [if_neg, if_pos]
            rfl
      refine lv_iinc (v := nI (i + 1)) (lv' := [(1, .int (nI (i + 1))), (0, .ref b)]) hx hb dX8_init_182 hl (k := 0) rfl (nI_1 i) (by decide) rfl (fun ls hl => ?_)
      refine lv_goto (tgt := 163) hx hb dX8_init_185 (by decide) ?_
      have hW := ih (i + 1) H locs ls (by omega) (by omega) hw hl
      rw [show 1061 + 5 * (i + 1) = 1061 + 5 * i + 5 + 0 by omega] at hW
      exact hW
set_option maxRecDepth 100000 in
set_option maxHeartbeats 4000000 in
theorem kS4 (C : sg_C g b p s m args meth c cX8_init 2 RX8) (kk : ∀ (H : Heap) (locs : List Loc) (ls : Array Slot), sg_w g b (151 + 16) (eS g b 12 96 30 16) s H locs → lv_has ls 2 [(0, .ref b)] → W p l e (sg_rm 2 32 166 1371) s m args below meth c H locs (150 + 16) (1211 + 10 * 16) Q (F0 m 215 ls [])) :
    ∀ (k i : Nat) (H : Heap) (locs : List Loc) (ls : Array Slot), i ≤ 16 → 16 ≤ i + k → sg_w g b (151 + i) (eS g b 12 96 30 i) s H locs → lv_has ls 2 [(1, .int (nI i)), (0, .ref b)] → W p l e (sg_rm 2 32 166 1371) s m args below meth c H locs (150 + i) (1211 + 10 * i) Q (F0 m 190 ls []) := by
  obtain ⟨hx, hb, -⟩ := id C
  have exit : ∀ (H : Heap) (locs : List Loc) (ls : Array Slot), sg_w g b (151 + 16) (eS g b 12 96 30 16) s H locs → lv_has ls 2 [(1, .int (nI 16)), (0, .ref b)] → W p l e (sg_rm 2 32 166 1371) s m args below meth c H locs (150 + 16) (1211 + 10 * 16) Q (F0 m 190 ls []) := by
    intro H locs ls hw hl
    refine lv_iload_n hx hb dX8_init_190 rfl (lv_at hl 0 rfl) ?_
    refine lv_bipush (v := (16 : Int32)) hx hb dX8_init_191 (by decide) ?_
    exact lv_icmp_ge (tgt := 215) hx hb dX8_init_193 (by decide) (fun _ => kk H locs ls hw (lv_sub hl [1] rfl)) (fun q => absurd (by decide) q)
  intro k
  induction k with
  | zero =>
    intro i H locs ls h1 h2 hw hl
    have hi : i = 16 := by omega
    subst hi
    exact exit H locs ls hw hl
  | succ k ih =>
    intro i H locs ls h1 h2 hw hl
    by_cases hi : i = 16
    · subst hi
      exact exit H locs ls hw hl
    · have hlt : i < 16 := by omega
      refine lv_iload_n hx hb dX8_init_190 rfl (lv_at hl 0 rfl) ?_
      refine lv_bipush (v := (16 : Int32)) hx hb dX8_init_191 (by decide) ?_
      refine lv_icmp_ge (tgt := 215) hx hb dX8_init_193 (by decide) (fun q => absurd q (nI_ge (b := 16) hlt (by decide))) (fun _ => ?_)
      refine lv_aload_n hx hb dX8_init_196 rfl (lv_at hl 1 rfl) ?_
      refine sg_geti (i := 0) (ci := 8) (j := 8) (N := 13) (T := TX8) (v := .ref (b + 4)) C hw rfl wi_X8 (by decide) (by omega) rfl rfl (x_mem (i := 276) (by decide +kernel) (by decide +kernel)) dX8_init_197 ?_
      refine lv_iload_n hx hb dX8_init_200 rfl (lv_at hl 0 rfl) ?_
      refine sg_new (n := 151 + i) (ci := 2) (N := 10) (T := TX2) (ty := tyX2) (fs := [.int 0, .int 0, .int 0, .int 0, .int 0, .int 0, .int 0, .int 0, .int 0, .int 0]) C hw rfl wi_X2 tyX2_ok (x_mem (i := 80) (by decide +kernel) (by decide +kernel)) (x_mem (i := 207) (by decide +kernel) (by decide +kernel)) (x_mem (i := 48) (by decide +kernel) (by decide +kernel)) (by decide) (by show 150 + i + 1 ≤ 166; omega) (by show 1211 + 10 * i + 10 ≤ 1371; omega) dX8_init_201 (fun H hw => ?_)
      refine lv_dup hx hb dX8_init_204 rfl ?_
      refine sg_iN (n := 151 + i) (n1 := 1) C hw hl.1 [.ref (b + (151 + i)), .int (nI i), .ref (b + 4)] (if_pos rfl) (kX2 l g) li_X8_83 ⟨Nat.le_of_ble_eq_true rfl, Nat.le_of_ble_eq_true rfl⟩ (Nat.le_of_ble_eq_true rfl) ⟨by show 150 + i + 1 + 0 ≤ 166; omega, by show 1211 + 10 * i + 10 + 0 ≤ 1371; omega⟩ dX8_init_205 (fun H locs hw => ?_)
      refine sg_ast (i := 4) (k := 151 + i) (t := 4) (N := 16) (f := sg_q b i 151) (ci := 2) (r := (RX2, TX2, 10)) (vs := [.int (0), .int (0), .int (0), .int (0), .int (0), .int (0), .int (0), .int (0), .int (0), .int (0)]) C hw (by omega) (by simp only [sg_jn, sg_up]; rw [if_pos (by omega), if_neg (by omega)]; rfl) rfl (by omega) (by simp only [sg_jn]; rw [if_neg (by omega), Nat.sub_self]; rfl) rfl (vp_in_nI hlt (by decide)) dX8_init_208 (fun H locs hw => ?_)
      have hw : sg_w g b (151 + (i + 1)) (eS g b 12 96 30 (i + 1)) s H locs := by
        refine hw.to (fun k hk => ?_)
        simp only [sg_up, sg_jn]
        by_cases h1 : k = 4
        · subst h1
          rw [if_pos rfl, nI_clamp (by omega), sg_q_up]
          rfl
        · rw [if_neg h1]
          by_cases h2 : k < 151 + i
          · rw [if_pos h2, if_neg (by omega)]
            simp only [eS, if_neg h1]
          · rw [if_neg h2]
            have h3 : k = 151 + i := by omega
            subst h3
            rw [Nat.sub_self]
            unfold eS
            simp (disch := omega) only [if_neg, if_pos]
            rfl
      refine lv_iinc (v := nI (i + 1)) (lv' := [(1, .int (nI (i + 1))), (0, .ref b)]) hx hb dX8_init_209 hl (k := 0) rfl (nI_1 i) (by decide) rfl (fun ls hl => ?_)
      refine lv_goto (tgt := 190) hx hb dX8_init_212 (by decide) ?_
      have hW := ih (i + 1) H locs ls (by omega) (by omega) hw hl
      rw [show 1211 + 10 * (i + 1) = 1211 + 10 * i + 10 + 0 by omega] at hW
      exact hW
end KS
def eS8 (g : xG) (b : Nat) : Nat → va_E := eS g b 12 96 30 16
set_option maxRecDepth 100000 in
set_option maxHeartbeats 4000000 in
theorem kX8 (l : Launch) (g : xG) : sg_c l g yX8_init cX8_init 2 2 32 166 1371 8 [.int 0, .int 0, .int 0, .int 0, .int 0, .null, .null, .null, .null, .null, .null, .null, .null] 167 (eS8 g) := by
  refine sg_st RX8 (by decide) rfl rfl (by decide) ?_
  intro b p e s m args below meth c Q ls C hmn hw ret hl
  obtain ⟨hx, hb, -⟩ := id C
  refine lv_aload_n hx hb dX8_init_0 rfl (lv_at hl 0 rfl) ?_
  refine sg_obj C hl.1 lo_X8 (Nat.le_of_ble_eq_true rfl) (Nat.le_of_ble_eq_true rfl) dX8_init_1 ?_
  refine lv_aload_n hx hb dX8_init_4 rfl (lv_at hl 0 rfl) ?_
  refine lv_iconst (v := (0 : Int32)) hx hb dX8_init_5 (by decide) ?_
  refine sg_put (i := 0) (ci := 8) (j := 0) (N := 13) (T := TX8) (ty0 := tyX8) (ty := .int) (fs := [.int 0, .int 0, .int 0, .int 0, .int 0, .null, .null, .null, .null, .null, .null, .null, .null]) C hw rfl wi_X8 tyX8_ok nmX8 (by decide) (by decide) rfl (Nat.le_of_ble_eq_true rfl) (fun _ => hmn) rfl (by decide +kernel) (x_mem (i := 258) (by decide +kernel) (by decide +kernel)) rfl rfl dX8_init_6 (fun H locs hw => ?_)
  refine lv_aload_n hx hb dX8_init_9 rfl (lv_at hl 0 rfl) ?_
  refine lv_iconst (v := (0 : Int32)) hx hb dX8_init_10 (by decide) ?_
  refine sg_put (i := 0) (ci := 8) (j := 1) (N := 13) (T := TX8) (ty0 := tyX8) (ty := .int) (fs := [.int (0), .int 0, .int 0, .int 0, .int 0, .null, .null, .null, .null, .null, .null, .null, .null]) C hw rfl wi_X8 tyX8_ok nmX8 (by decide) (by decide) rfl (Nat.le_of_ble_eq_true rfl) (fun _ => hmn) rfl (by decide +kernel) (x_mem (i := 261) (by decide +kernel) (by decide +kernel)) rfl rfl dX8_init_11 (fun H locs hw => ?_)
  refine lv_aload_n hx hb dX8_init_14 rfl (lv_at hl 0 rfl) ?_
  refine lv_iconst (v := (0 : Int32)) hx hb dX8_init_15 (by decide) ?_
  refine sg_put (i := 0) (ci := 8) (j := 2) (N := 13) (T := TX8) (ty0 := tyX8) (ty := .int) (fs := [.int (0), .int (0), .int 0, .int 0, .int 0, .null, .null, .null, .null, .null, .null, .null, .null]) C hw rfl wi_X8 tyX8_ok nmX8 (by decide) (by decide) rfl (Nat.le_of_ble_eq_true rfl) (fun _ => hmn) rfl (by decide +kernel) (x_mem (i := 263) (by decide +kernel) (by decide +kernel)) rfl rfl dX8_init_16 (fun H locs hw => ?_)
  refine lv_aload_n hx hb dX8_init_19 rfl (lv_at hl 0 rfl) ?_
  refine lv_iconst (v := (0 : Int32)) hx hb dX8_init_20 (by decide) ?_
  refine sg_put (i := 0) (ci := 8) (j := 3) (N := 13) (T := TX8) (ty0 := tyX8) (ty := .int) (fs := [.int (0), .int (0), .int (0), .int 0, .int 0, .null, .null, .null, .null, .null, .null, .null, .null]) C hw rfl wi_X8 tyX8_ok nmX8 (by decide) (by decide) rfl (Nat.le_of_ble_eq_true rfl) (fun _ => hmn) rfl (by decide +kernel) (x_mem (i := 265) (by decide +kernel) (by decide +kernel)) rfl rfl dX8_init_21 (fun H locs hw => ?_)
  refine lv_aload_n hx hb dX8_init_24 rfl (lv_at hl 0 rfl) ?_
  refine lv_iconst (v := (0 : Int32)) hx hb dX8_init_25 (by decide) ?_
  refine sg_put (i := 0) (ci := 8) (j := 4) (N := 13) (T := TX8) (ty0 := tyX8) (ty := .int) (fs := [.int (0), .int (0), .int (0), .int (0), .int 0, .null, .null, .null, .null, .null, .null, .null, .null]) C hw rfl wi_X8 tyX8_ok nmX8 (by decide) (by decide) rfl (Nat.le_of_ble_eq_true rfl) (fun _ => hmn) rfl (by decide +kernel) (x_mem (i := 267) (by decide +kernel) (by decide +kernel)) rfl rfl dX8_init_26 (fun H locs hw => ?_)
  refine lv_aload_n hx hb dX8_init_29 rfl (lv_at hl 0 rfl) ?_
  refine lv_bipush (v := (12 : Int32)) hx hb dX8_init_30 (by decide) ?_
  refine sg_newq (v := (12 : Int32)) (N := 12) (t := 5) (Cn := "DayFines$Person") C hw (x_mem (i := 74) (by decide +kernel) (by decide +kernel)) C.2.2.2.2.2.1.2.2.1.2.2.2.1 rfl (by decide) (by decide) (Nat.le_of_ble_eq_true rfl) (Nat.le_of_ble_eq_true rfl) (Nat.le_of_ble_eq_true rfl) dX8_init_32 (fun H hw => ?_)
  refine sg_put (i := 0) (ci := 8) (j := 5) (N := 13) (T := TX8) (ty0 := tyX8) (ty := .array (.object "DayFines$Person")) (fs := [.int (0), .int (0), .int (0), .int (0), .int (0), .null, .null, .null, .null, .null, .null, .null, .null]) C hw rfl wi_X8 tyX8_ok nmX8 (by decide) (by decide) rfl (Nat.le_of_ble_eq_true rfl) (fun _ => hmn) rfl (by decide +kernel) (x_mem (i := 270) (by decide +kernel) (by decide +kernel)) rfl rfl dX8_init_35 (fun H locs hw => ?_)
  refine lv_aload_n hx hb dX8_init_38 rfl (lv_at hl 0 rfl) ?_
  refine lv_bipush (v := (96 : Int32)) hx hb dX8_init_39 (by decide) ?_
  refine sg_newq (v := (96 : Int32)) (N := 96) (t := 3) (Cn := "DayFines$Fact") C hw (x_mem (i := 76) (by decide +kernel) (by decide +kernel)) C.2.2.2.2.2.1.2.2.1.2.1 rfl (by decide) (by decide) (Nat.le_of_ble_eq_true rfl) (Nat.le_of_ble_eq_true rfl) (Nat.le_of_ble_eq_true rfl) dX8_init_41 (fun H hw => ?_)
  refine sg_put (i := 0) (ci := 8) (j := 6) (N := 13) (T := TX8) (ty0 := tyX8) (ty := .array (.object "DayFines$Fact")) (fs := [.int (0), .int (0), .int (0), .int (0), .int (0), .ref (b + 1), .null, .null, .null, .null, .null, .null, .null]) C hw rfl wi_X8 tyX8_ok nmX8 (by decide) (by decide) rfl (Nat.le_of_ble_eq_true rfl) (fun _ => hmn) rfl (by decide +kernel) (x_mem (i := 272) (by decide +kernel) (by decide +kernel)) rfl rfl dX8_init_44 (fun H locs hw => ?_)
  refine lv_aload_n hx hb dX8_init_47 rfl (lv_at hl 0 rfl) ?_
  refine lv_bipush (v := (30 : Int32)) hx hb dX8_init_48 (by decide) ?_
  refine sg_newq (v := (30 : Int32)) (N := 30) (t := 2) (Cn := "DayFines$Deed") C hw (x_mem (i := 78) (by decide +kernel) (by decide +kernel)) C.2.2.2.2.2.1.2.2.1.1 rfl (by decide) (by decide) (Nat.le_of_ble_eq_true rfl) (Nat.le_of_ble_eq_true rfl) (Nat.le_of_ble_eq_true rfl) dX8_init_50 (fun H hw => ?_)
  refine sg_put (i := 0) (ci := 8) (j := 7) (N := 13) (T := TX8) (ty0 := tyX8) (ty := .array (.object "DayFines$Deed")) (fs := [.int (0), .int (0), .int (0), .int (0), .int (0), .ref (b + 1), .ref (b + 2), .null, .null, .null, .null, .null, .null]) C hw rfl wi_X8 tyX8_ok nmX8 (by decide) (by decide) rfl (Nat.le_of_ble_eq_true rfl) (fun _ => hmn) rfl (by decide +kernel) (x_mem (i := 274) (by decide +kernel) (by decide +kernel)) rfl rfl dX8_init_53 (fun H locs hw => ?_)
  refine lv_aload_n hx hb dX8_init_56 rfl (lv_at hl 0 rfl) ?_
  refine lv_bipush (v := (16 : Int32)) hx hb dX8_init_57 (by decide) ?_
  refine sg_newq (v := (16 : Int32)) (N := 16) (t := 4) (Cn := "DayFines$Judgment") C hw (x_mem (i := 80) (by decide +kernel) (by decide +kernel)) C.2.2.2.2.2.1.2.2.1.2.2.1 rfl (by decide) (by decide) (Nat.le_of_ble_eq_true rfl) (Nat.le_of_ble_eq_true rfl) (Nat.le_of_ble_eq_true rfl) dX8_init_59 (fun H hw => ?_)
  refine sg_put (i := 0) (ci := 8) (j := 8) (N := 13) (T := TX8) (ty0 := tyX8) (ty := .array (.object "DayFines$Judgment")) (fs := [.int (0), .int (0), .int (0), .int (0), .int (0), .ref (b + 1), .ref (b + 2), .ref (b + 3), .null, .null, .null, .null, .null]) C hw rfl wi_X8 tyX8_ok nmX8 (by decide) (by decide) rfl (Nat.le_of_ble_eq_true rfl) (fun _ => hmn) rfl (by decide +kernel) (x_mem (i := 276) (by decide +kernel) (by decide +kernel)) rfl rfl dX8_init_62 (fun H locs hw => ?_)
  refine lv_aload_n hx hb dX8_init_65 rfl (lv_at hl 0 rfl) ?_
  refine va_getsN hx hb C.2.2.2.2.2.1.2.2.2.1.2.2.1.1 hw.2 C.2.2.2.1 (va_Nw.use rfl C.2.2.2.2.2.1.2.2.1.2.2.2.2.2.2) (fun _ h => h) dX8_init_66 ?_
  refine sg_clone C hw hl.1 (x_mem (i := 84) (by decide +kernel) (by decide +kernel)) (x_mem (i := 85) (by decide +kernel) (by decide +kernel)) (x_mem (i := 86) (by decide +kernel) (by decide +kernel)) (x_mem (i := 87) (by decide +kernel) (by decide +kernel)) (x_mem (i := 88) (by decide +kernel) (by decide +kernel)) (Nat.le_of_ble_eq_true rfl) (Nat.le_of_ble_eq_true rfl) (Nat.le_of_ble_eq_true rfl) (Nat.le_of_ble_eq_true rfl) dX8_init_69 (fun H hw => ?_)
  refine sg_cast (i := 5) C hw (x_mem (i := 90) (by decide +kernel) (by decide +kernel)) (by decide) rfl dX8_init_72 ?_
  refine sg_put (i := 0) (ci := 8) (j := 9) (N := 13) (T := TX8) (ty0 := tyX8) (ty := .array .int) (fs := [.int (0), .int (0), .int (0), .int (0), .int (0), .ref (b + 1), .ref (b + 2), .ref (b + 3), .ref (b + 4), .null, .null, .null, .null]) C hw rfl wi_X8 tyX8_ok nmX8 (by decide) (by decide) rfl (Nat.le_of_ble_eq_true rfl) (fun _ => hmn) rfl (by decide +kernel) (x_mem (i := 279) (by decide +kernel) (by decide +kernel)) rfl rfl dX8_init_75 (fun H locs hw => ?_)
  refine lv_aload_n hx hb dX8_init_78 rfl (lv_at hl 0 rfl) ?_
  refine lv_iconst (v := (4 : Int32)) hx hb dX8_init_79 (by decide) ?_
  refine sg_newi (v := (4 : Int32)) (N := 4) C hw (x_mem (i := 117) (by decide +kernel) (by decide +kernel)) (by decide) (by decide) (Nat.le_of_ble_eq_true rfl) (Nat.le_of_ble_eq_true rfl) (Nat.le_of_ble_eq_true rfl) dX8_init_80 (fun H hw => ?_)
  refine sg_put (i := 0) (ci := 8) (j := 10) (N := 13) (T := TX8) (ty0 := tyX8) (ty := .array .int) (fs := [.int (0), .int (0), .int (0), .int (0), .int (0), .ref (b + 1), .ref (b + 2), .ref (b + 3), .ref (b + 4), .ref (b + 5), .null, .null, .null]) C hw rfl wi_X8 tyX8_ok nmX8 (by decide) (by decide) rfl (Nat.le_of_ble_eq_true rfl) (fun _ => hmn) rfl (by decide +kernel) (x_mem (i := 282) (by decide +kernel) (by decide +kernel)) rfl rfl dX8_init_82 (fun H locs hw => ?_)
  refine lv_aload_n hx hb dX8_init_85 rfl (lv_at hl 0 rfl) ?_
  refine sg_new (ci := 3) (N := 4) (T := TX3) (ty := tyX3) (fs := [.null, .null, .int 0, .int 0]) C hw rfl wi_X3 tyX3_ok (x_mem (i := 91) (by decide +kernel) (by decide +kernel)) (x_mem (i := 92) (by decide +kernel) (by decide +kernel)) (x_mem (i := 43) (by decide +kernel) (by decide +kernel)) (by decide) (Nat.le_of_ble_eq_true rfl) (Nat.le_of_ble_eq_true rfl) dX8_init_86 (fun H hw => ?_)
  refine lv_dup hx hb dX8_init_89 rfl ?_
  refine sg_iN (n := 7) (n1 := 3) C hw hl.1 [.ref (b + 7), .ref b] rfl (kX3 l g) li_X8_68 ⟨Nat.le_of_ble_eq_true rfl, Nat.le_of_ble_eq_true rfl⟩ (Nat.le_of_ble_eq_true rfl) ⟨Nat.le_of_ble_eq_true rfl, Nat.le_of_ble_eq_true rfl⟩ dX8_init_90 (fun H locs hw => ?_)
  refine sg_put (i := 0) (ci := 8) (j := 11) (N := 13) (T := TX8) (ty0 := tyX8) (ty := .object "DayFines$Law") (fs := [.int (0), .int (0), .int (0), .int (0), .int (0), .ref (b + 1), .ref (b + 2), .ref (b + 3), .ref (b + 4), .ref (b + 5), .ref (b + 6), .null, .null]) C hw rfl wi_X8 tyX8_ok nmX8 (by decide) (by decide) rfl (Nat.le_of_ble_eq_true rfl) (fun _ => hmn) rfl (by decide +kernel) (x_mem (i := 284) (by decide +kernel) (by decide +kernel)) rfl rfl dX8_init_93 (fun H locs hw => ?_)
  refine lv_aload_n hx hb dX8_init_96 rfl (lv_at hl 0 rfl) ?_
  refine sg_new (ci := 7) (N := 2) (T := TX7) (ty := tyX7) (fs := [.null, .null]) C hw rfl wi_X7 tyX7_ok (x_mem (i := 118) (by decide +kernel) (by decide +kernel)) (x_mem (i := 119) (by decide +kernel) (by decide +kernel)) (x_mem (i := 44) (by decide +kernel) (by decide +kernel)) (by decide) (Nat.le_of_ble_eq_true rfl) (Nat.le_of_ble_eq_true rfl) dX8_init_97 (fun H hw => ?_)
  refine lv_dup hx hb dX8_init_100 rfl ?_
  refine sg_iN (n := 10) (n1 := 3) C hw hl.1 [.ref (b + 10), .ref b] rfl (kX7 l g) li_X8_75 ⟨Nat.le_of_ble_eq_true rfl, Nat.le_of_ble_eq_true rfl⟩ (Nat.le_of_ble_eq_true rfl) ⟨Nat.le_of_ble_eq_true rfl, Nat.le_of_ble_eq_true rfl⟩ dX8_init_101 (fun H locs hw => ?_)
  refine sg_put (i := 0) (ci := 8) (j := 12) (N := 13) (T := TX8) (ty0 := tyX8) (ty := .object "DayFines$Reckoner") (fs := [.int (0), .int (0), .int (0), .int (0), .int (0), .ref (b + 1), .ref (b + 2), .ref (b + 3), .ref (b + 4), .ref (b + 5), .ref (b + 6), .ref (b + 7), .null]) C hw rfl wi_X8 tyX8_ok nmX8 (by decide) (by decide) rfl (Nat.le_of_ble_eq_true rfl) (fun _ => hmn) rfl (by decide +kernel) (x_mem (i := 286) (by decide +kernel) (by decide +kernel)) rfl rfl dX8_init_104 (fun H locs hw => ?_)
  have hw : sg_w g b (13 + 0) (eS g b 0 0 0 0) s H locs := by
    refine hw.to (fun i hi => ?_)
    match i, hi with
    | 0, _ => rfl
    | 1, _ => exact congrArg (fun f => (Sum.inl (g.2.1 5, 12, .inr (.inr (.inr (.inr f)))) : va_E)) (sg_q_0 b 13).symm
    | 2, _ => exact congrArg (fun f => (Sum.inl (g.2.1 3, 96, .inr (.inr (.inr (.inr f)))) : va_E)) (sg_q_0 b 25).symm
    | 3, _ => exact congrArg (fun f => (Sum.inl (g.2.1 2, 30, .inr (.inr (.inr (.inr f)))) : va_E)) (sg_q_0 b 121).symm
    | 4, _ => exact congrArg (fun f => (Sum.inl (g.2.1 4, 16, .inr (.inr (.inr (.inr f)))) : va_E)) (sg_q_0 b 151).symm
    | 5, _ => rfl
    | 6, _ => rfl
    | 7, _ => rfl
    | 8, _ => rfl
    | 9, _ => rfl
    | 10, _ => rfl
    | 11, _ => rfl
    | 12, _ => rfl
    | i + 13, h => exact absurd h (by omega)
  refine lv_iconst (v := (0 : Int32)) hx hb dX8_init_107 (by decide) ?_
  refine lv_istore_n (lv' := [(1, .int (nI 0)), (0, .ref b)]) hx hb dX8_init_108 rfl hl (by decide) rfl (fun ls hl => ?_)
  refine kS1 C (fun H locs ls hw hl => ?_) 12 0 _ _ ls (by decide) (by decide) hw hl
  refine lv_iconst (v := (0 : Int32)) hx hb dX8_init_134 (by decide) ?_
  refine lv_istore_n (lv' := [(1, .int (nI 0)), (0, .ref b)]) hx hb dX8_init_135 rfl hl (by decide) rfl (fun ls hl => ?_)
  refine kS2 C (fun H locs ls hw hl => ?_) 96 0 _ _ ls (by decide) (by decide) hw hl
  refine lv_iconst (v := (0 : Int32)) hx hb dX8_init_161 (by decide) ?_
  refine lv_istore_n (lv' := [(1, .int (nI 0)), (0, .ref b)]) hx hb dX8_init_162 rfl hl (by decide) rfl (fun ls hl => ?_)
  refine kS3 C (fun H locs ls hw hl => ?_) 30 0 _ _ ls (by decide) (by decide) hw hl
  refine lv_iconst (v := (0 : Int32)) hx hb dX8_init_188 (by decide) ?_
  refine lv_istore_n (lv' := [(1, .int (nI 0)), (0, .ref b)]) hx hb dX8_init_189 rfl hl (by decide) rfl (fun ls hl => ?_)
  refine kS4 C (fun H locs ls hw hl => ?_) 16 0 _ _ ls (by decide) (by decide) hw hl
  refine ret ?_ dX8_init_215 hw
  exact fun i hi => rfl
