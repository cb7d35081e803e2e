def fM0 : Nat → Int32 := (upd (upd (upd (upd (upd (upd (upd (upd (upd (upd (upd (upd (upd (upd (upd (upd (fun _ => 0) (0 : Int32).toNatClampNeg (1000)) (1 : Int32).toNatClampNeg (365)) (2 : Int32).toNatClampNeg (1)) (3 : Int32).toNatClampNeg (120)) (4 : Int32).toNatClampNeg (50)) (5 : Int32).toNatClampNeg (240)) (6 : Int32).toNatClampNeg (1)) (7 : Int32).toNatClampNeg (1000)) (8 : Int32).toNatClampNeg (30)) (9 : Int32).toNatClampNeg (400)) (10 : Int32).toNatClampNeg (4)) (11 : Int32).toNatClampNeg (30)) (12 : Int32).toNatClampNeg (365)) (13 : Int32).toNatClampNeg (300)) (14 : Int32).toNatClampNeg (50)) (15 : Int32).toNatClampNeg (0))
theorem fM0_eq : ∀ i, i < 16 → fM0 i = x_first i := by decide +kernel
def mS (n : Nat) : Nat → Int32 := fun j => if 1 ≤ j ∧ j < 1 + n then x_first (j - 1) else 0
theorem mS_0 : mS 0 = fun _ => 0 := by
  funext j
  exact if_neg (by omega)
theorem mS_up (i : Nat) : upd (mS i) (1 + i) (x_first i) = mS (i + 1) := by
  funext j
  unfold upd mS
  by_cases h : j = 1 + i
  · subst h
    rw [if_pos rfl, if_pos (by omega), Nat.add_sub_cancel_left]
  · rw [if_neg h]
    by_cases h2 : 1 ≤ j ∧ j < 1 + i
    · rw [if_pos h2, if_pos (by omega)]
    · rw [if_neg h2, if_neg (by omega)]
def eMt (g : xG) (b : Nat) : Nat → va_E := fun i => match i with
  | 0 => .inr (11, [.ref (b + 1), .ref (b + 2), .int 0, .ref (b + 3), .int 0, .int 0, .int 0, .int 0, .int 0, .int 0, .int 0, .int 0, .int 0, .int 0, .ref (b + 4), .ref (b + 5), .int 0, .int 0, .int 0, .ref (b + 6), .ref (b + 7), .ref (b + 8), .ref (b + 9), .ref (b + 10), .int 0, .ref (b + 11), .ref (b + 12), .int 0, .ref (b + 13), .ref (b + 14), .ref (b + 15)])
  | 2 => .inl (g.2.1 0, 1675, .inl (fun _ => 0))
  | 3 => .inl (g.2.1 0, 120, .inl (fun _ => 0))
  | 4 => .inl (g.2.1 0, 723, .inl (fun _ => 0))
  | 5 => .inl (g.2.1 0, 130, .inl (fun _ => 0))
  | 6 => .inl (g.2.1 0, 130, .inl (fun _ => 0))
  | 7 => .inl (g.2.1 0, 128, .inl (fun _ => 0))
  | 8 => .inl (g.2.1 0, 24, .inl (fun _ => 0))
  | 9 => .inl (g.2.1 0, 16, .inl (fun _ => 0))
  | 10 => .inl (g.2.1 0, 16, .inl (fun _ => 0))
  | 11 => .inl (g.2.1 0, 24, .inl (fun _ => 0))
  | 12 => .inl (g.2.1 0, 30, .inl (fun _ => 0))
  | 13 => .inl (g.2.1 0, 48, .inl (fun _ => 0))
  | 14 => .inl (g.2.1 0, 2, .inl (upd (upd (fun _ => 0) (0 : Int32).toNatClampNeg (-1)) (1 : Int32).toNatClampNeg (-1)))
  | 15 => .inl (g.2.1 0, 24, .inl (fun _ => 0))
  | _ => .inl (g.2.1 0, 16, .inl fM0)
def eM (g : xG) (b n : Nat) : Nat → va_E := fun i => if i = 1 then .inl (g.2.1 0, 1675, .inl (mS n)) else eMt g b i
def eX11 (g : xG) (b : Nat) : Nat → va_E := eM g b 16
theorem lo_X11 : sg_lO RX11 1 := ⟨x_mem (i := 1113) (by decide +kernel) (by decide +kernel), x_mem (i := 66) (by decide +kernel) (by decide +kernel), x_mem (i := 67) (by decide +kernel) (by decide +kernel)⟩
set_option maxRecDepth 100000 in
set_option maxHeartbeats 4000000 in
theorem kM {p : Program} {l : Launch} {e : Env} {R : Room} {s : State} {m : MethodId} {args : Array Value} {below : List Frame} {meth : Method} {c : Code} {Q : State → Prop} {g : xG} {b cells slots : Nat} (C : sg_C g b p s m args meth c cX11_init 3 RX11) (kk : ∀ (H : Heap) (locs : List Loc) (ls : Array Slot), sg_w g b 17 (eM g b 16) s H locs → W p l e R s m args below meth c H locs cells slots Q (F0 m 260 ls [])) :
    ∀ (k i : Nat) (H : Heap) (locs : List Loc) (ls : Array Slot), i ≤ 16 → 16 ≤ i + k → sg_w g b 17 (eM g b i) s H locs → lv_has ls 3 [(2, .int (nI i)), (1, .ref (b + 16)), (0, .ref b)] → W p l e R s m args below meth c H locs cells slots Q (F0 m 237 ls []) := by
  obtain ⟨hx, hb, -⟩ := id C
  have exit : ∀ (H : Heap) (locs : List Loc) (ls : Array Slot), sg_w g b 17 (eM g b 16) s H locs → lv_has ls 3 [(2, .int (nI 16)), (1, .ref (b + 16)), (0, .ref b)] → W p l e R s m args below meth c H locs cells slots Q (F0 m 237 ls []) := by
    intro H locs ls hw hl
    refine lv_iload_n hx hb dX11_init_237 rfl (lv_at hl 0 rfl) ?_
    refine lv_bipush (v := (16 : Int32)) hx hb dX11_init_238 (by decide) ?_
    exact lv_icmp_ge (tgt := 260) hx hb dX11_init_240 (by decide) (fun _ => kk H locs ls hw) (fun q => absurd (by decide) q)
  intro k
  induction k with
  | zero =>
    intro i H locs ls h1 h2 hw hl
    have hi : i = 16 := by omega
    subst hi
    exact exit H locs ls hw hl
  | succ k ih =>
    intro i H locs ls h1 h2 hw hl
    by_cases hi : i = 16
    · subst hi
      exact exit H locs ls hw hl
    · have hlt : i < 16 := by omega
      have e1 : (1 + nI i : Int32) = nI (1 + i) := nI_add 1 i
      refine lv_iload_n hx hb dX11_init_237 rfl (lv_at hl 0 rfl) ?_
      refine lv_bipush (v := (16 : Int32)) hx hb dX11_init_238 (by decide) ?_
      refine lv_icmp_ge (tgt := 260) hx hb dX11_init_240 (by decide) (fun q => absurd q (nI_ge (b := 16) hlt (by decide))) (fun _ => ?_)
      refine lv_aload_n hx hb dX11_init_243 rfl (lv_at hl 2 rfl) ?_
      refine sg_geti (i := 0) (ci := 11) (j := 0) (N := 31) (T := TX11) (v := .ref (b + 1)) C hw rfl wi_X11 (by decide) (by omega) rfl rfl (x_mem (i := 1114) (by decide +kernel) (by decide +kernel)) dX11_init_244 ?_
      refine lv_iconst (v := (1 : Int32)) hx hb dX11_init_247 (by decide) ?_
      refine lv_iload_n hx hb dX11_init_248 rfl (lv_at hl 0 rfl) ?_
      refine lv_iadd hx hb dX11_init_249 ?_
      refine lv_aload_n hx hb dX11_init_250 rfl (lv_at hl 1 rfl) ?_
      refine lv_iload_n hx hb dX11_init_251 rfl (lv_at hl 0 rfl) ?_
      refine sg_iald (i := 16) (N := 16) (f := fM0) C hw (by decide) rfl (vp_in_nI hlt (by decide)) dX11_init_252 ?_
      refine sg_iast (i := 1) (N := 1675) (f := mS i) C hw (by decide) rfl (by rw [e1]; exact vp_in_nI (by omega) (by decide)) dX11_init_253 (fun H locs hw => ?_)
      have hw : sg_w g b 17 (eM g b (i + 1)) s H locs := by
        refine hw.to (fun k hk => ?_)
        unfold sg_up eM
        by_cases h1 : k = 1
        · rw [if_pos h1, if_pos h1, e1, nI_clamp (by omega), nI_clamp (by omega), fM0_eq i hlt, mS_up]
        · rw [if_neg h1, if_neg h1, if_neg h1]
      refine lv_iinc (v := nI (i + 1)) (lv' := [(2, .int (nI (i + 1))), (1, .ref (b + 16)), (0, .ref b)]) hx hb dX11_init_254 hl (k := 0) rfl (nI_1 i) (by decide) rfl (fun ls hl => ?_)
      refine lv_goto (tgt := 237) hx hb dX11_init_257 (by decide) ?_
      exact ih (i + 1) H locs ls (by omega) (by omega) hw hl
set_option maxRecDepth 100000 in
set_option maxHeartbeats 4000000 in
theorem kX11 (l : Launch) (g : xG) : sg_c l g yX11_init cX11_init 3 1 12 16 4781 11 [.null, .null, .int 0, .null, .int 0, .int 0, .int 0, .int 0, .int 0, .int 0, .int 0, .int 0, .int 0, .int 0, .null, .null, .int 0, .int 0, .int 0, .null, .null, .null, .null, .null, .int 0, .null, .null, .int 0, .null, .null, .null] 17 (eX11 g) := by
  refine sg_st RX11 (by decide) rfl rfl (by decide) ?_
  intro b p e s m args below meth c Q ls C hmn hw ret hl
  obtain ⟨hx, hb, -⟩ := id C
  refine lv_aload_n hx hb dX11_init_0 rfl (lv_at hl 0 rfl) ?_
  refine sg_obj C hl.1 lo_X11 (Nat.le_of_ble_eq_true rfl) (Nat.le_of_ble_eq_true rfl) dX11_init_1 ?_
  refine lv_aload_n hx hb dX11_init_4 rfl (lv_at hl 0 rfl) ?_
  refine lv_sipush (v := (1675 : Int32)) hx hb dX11_init_5 (by decide) ?_
  refine sg_newi (v := (1675 : Int32)) (N := 1675) C hw (x_mem (i := 117) (by decide +kernel) (by decide +kernel)) (by decide) (by decide) (Nat.le_of_ble_eq_true rfl) (Nat.le_of_ble_eq_true rfl) (Nat.le_of_ble_eq_true rfl) dX11_init_8 (fun H hw => ?_)
  refine sg_put (i := 0) (ci := 11) (j := 0) (N := 31) (T := TX11) (ty0 := tyX11) (ty := .array .int) (fs := [.null, .null, .int 0, .null, .int 0, .int 0, .int 0, .int 0, .int 0, .int 0, .int 0, .int 0, .int 0, .int 0, .null, .null, .int 0, .int 0, .int 0, .null, .null, .null, .null, .null, .int 0, .null, .null, .int 0, .null, .null, .null]) C hw rfl wi_X11 tyX11_ok nmX11 (by decide) (by decide) rfl (Nat.le_of_ble_eq_true rfl) (fun _ => hmn) rfl (by decide +kernel) (x_mem (i := 1114) (by decide +kernel) (by decide +kernel)) rfl rfl dX11_init_10 (fun H locs hw => ?_)
  refine lv_aload_n hx hb dX11_init_13 rfl (lv_at hl 0 rfl) ?_
  refine lv_sipush (v := (1675 : Int32)) hx hb dX11_init_14 (by decide) ?_
  refine sg_newi (v := (1675 : Int32)) (N := 1675) C hw (x_mem (i := 117) (by decide +kernel) (by decide +kernel)) (by decide) (by decide) (Nat.le_of_ble_eq_true rfl) (Nat.le_of_ble_eq_true rfl) (Nat.le_of_ble_eq_true rfl) dX11_init_17 (fun H hw => ?_)
  refine sg_put (i := 0) (ci := 11) (j := 1) (N := 31) (T := TX11) (ty0 := tyX11) (ty := .array .int) (fs := [.ref (b + 1), .null, .int 0, .null, .int 0, .int 0, .int 0, .int 0, .int 0, .int 0, .int 0, .int 0, .int 0, .int 0, .null, .null, .int 0, .int 0, .int 0, .null, .null, .null, .null, .null, .int 0, .null, .null, .int 0, .null, .null, .null]) C hw rfl wi_X11 tyX11_ok nmX11 (by decide) (by decide) rfl (Nat.le_of_ble_eq_true rfl) (fun _ => hmn) rfl (by decide +kernel) (x_mem (i := 1115) (by decide +kernel) (by decide +kernel)) rfl rfl dX11_init_19 (fun H locs hw => ?_)
  refine lv_aload_n hx hb dX11_init_22 rfl (lv_at hl 0 rfl) ?_
  refine lv_bipush (v := (120 : Int32)) hx hb dX11_init_23 (by decide) ?_
  refine sg_newi (v := (120 : Int32)) (N := 120) C hw (x_mem (i := 117) (by decide +kernel) (by decide +kernel)) (by decide) (by decide) (Nat.le_of_ble_eq_true rfl) (Nat.le_of_ble_eq_true rfl) (Nat.le_of_ble_eq_true rfl) dX11_init_25 (fun H hw => ?_)
  refine sg_put (i := 0) (ci := 11) (j := 3) (N := 31) (T := TX11) (ty0 := tyX11) (ty := .array .int) (fs := [.ref (b + 1), .ref (b + 2), .int 0, .null, .int 0, .int 0, .int 0, .int 0, .int 0, .int 0, .int 0, .int 0, .int 0, .int 0, .null, .null, .int 0, .int 0, .int 0, .null, .null, .null, .null, .null, .int 0, .null, .null, .int 0, .null, .null, .null]) C hw rfl wi_X11 tyX11_ok nmX11 (by decide) (by decide) rfl (Nat.le_of_ble_eq_true rfl) (fun _ => hmn) rfl (by decide +kernel) (x_mem (i := 1117) (by decide +kernel) (by decide +kernel)) rfl rfl dX11_init_27 (fun H locs hw => ?_)
  refine lv_aload_n hx hb dX11_init_30 rfl (lv_at hl 0 rfl) ?_
  refine lv_sipush (v := (723 : Int32)) hx hb dX11_init_31 (by decide) ?_
  refine sg_newi (v := (723 : Int32)) (N := 723) C hw (x_mem (i := 117) (by decide +kernel) (by decide +kernel)) (by decide) (by decide) (Nat.le_of_ble_eq_true rfl) (Nat.le_of_ble_eq_true rfl) (Nat.le_of_ble_eq_true rfl) dX11_init_34 (fun H hw => ?_)
  refine sg_put (i := 0) (ci := 11) (j := 14) (N := 31) (T := TX11) (ty0 := tyX11) (ty := .array .int) (fs := [.ref (b + 1), .ref (b + 2), .int 0, .ref (b + 3), .int 0, .int 0, .int 0, .int 0, .int 0, .int 0, .int 0, .int 0, .int 0, .int 0, .null, .null, .int 0, .int 0, .int 0, .null, .null, .null, .null, .null, .int 0, .null, .null, .int 0, .null, .null, .null]) C hw rfl wi_X11 tyX11_ok nmX11 (by decide) (by decide) rfl (Nat.le_of_ble_eq_true rfl) (fun _ => hmn) rfl (by decide +kernel) (x_mem (i := 1128) (by decide +kernel) (by decide +kernel)) rfl rfl dX11_init_36 (fun H locs hw => ?_)
  refine lv_aload_n hx hb dX11_init_39 rfl (lv_at hl 0 rfl) ?_
  refine lv_sipush (v := (130 : Int32)) hx hb dX11_init_40 (by decide) ?_
  refine sg_newi (v := (130 : Int32)) (N := 130) C hw (x_mem (i := 117) (by decide +kernel) (by decide +kernel)) (by decide) (by decide) (Nat.le_of_ble_eq_true rfl) (Nat.le_of_ble_eq_true rfl) (Nat.le_of_ble_eq_true rfl) dX11_init_43 (fun H hw => ?_)
  refine sg_put (i := 0) (ci := 11) (j := 15) (N := 31) (T := TX11) (ty0 := tyX11) (ty := .array .int) (fs := [.ref (b + 1), .ref (b + 2), .int 0, .ref (b + 3), .int 0, .int 0, .int 0, .int 0, .int 0, .int 0, .int 0, .int 0, .int 0, .int 0, .ref (b + 4), .null, .int 0, .int 0, .int 0, .null, .null, .null, .null, .null, .int 0, .null, .null, .int 0, .null, .null, .null]) C hw rfl wi_X11 tyX11_ok nmX11 (by decide) (by decide) rfl (Nat.le_of_ble_eq_true rfl) (fun _ => hmn) rfl (by decide +kernel) (x_mem (i := 1129) (by decide +kernel) (by decide +kernel)) rfl rfl dX11_init_45 (fun H locs hw => ?_)
  refine lv_aload_n hx hb dX11_init_48 rfl (lv_at hl 0 rfl) ?_
  refine lv_sipush (v := (130 : Int32)) hx hb dX11_init_49 (by decide) ?_
  refine sg_newi (v := (130 : Int32)) (N := 130) C hw (x_mem (i := 117) (by decide +kernel) (by decide +kernel)) (by decide) (by decide) (Nat.le_of_ble_eq_true rfl) (Nat.le_of_ble_eq_true rfl) (Nat.le_of_ble_eq_true rfl) dX11_init_52 (fun H hw => ?_)
  refine sg_put (i := 0) (ci := 11) (j := 19) (N := 31) (T := TX11) (ty0 := tyX11) (ty := .array .int) (fs := [.ref (b + 1), .ref (b + 2), .int 0, .ref (b + 3), .int 0, .int 0, .int 0, .int 0, .int 0, .int 0, .int 0, .int 0, .int 0, .int 0, .ref (b + 4), .ref (b + 5), .int 0, .int 0, .int 0, .null, .null, .null, .null, .null, .int 0, .null, .null, .int 0, .null, .null, .null]) C hw rfl wi_X11 tyX11_ok nmX11 (by decide) (by decide) rfl (Nat.le_of_ble_eq_true rfl) (fun _ => hmn) rfl (by decide +kernel) (x_mem (i := 1133) (by decide +kernel) (by decide +kernel)) rfl rfl dX11_init_54 (fun H locs hw => ?_)
  refine lv_aload_n hx hb dX11_init_57 rfl (lv_at hl 0 rfl) ?_
  refine lv_sipush (v := (128 : Int32)) hx hb dX11_init_58 (by decide) ?_
  refine sg_newi (v := (128 : Int32)) (N := 128) C hw (x_mem (i := 117) (by decide +kernel) (by decide +kernel)) (by decide) (by decide) (Nat.le_of_ble_eq_true rfl) (Nat.le_of_ble_eq_true rfl) (Nat.le_of_ble_eq_true rfl) dX11_init_61 (fun H hw => ?_)
  refine sg_put (i := 0) (ci := 11) (j := 20) (N := 31) (T := TX11) (ty0 := tyX11) (ty := .array .int) (fs := [.ref (b + 1), .ref (b + 2), .int 0, .ref (b + 3), .int 0, .int 0, .int 0, .int 0, .int 0, .int 0, .int 0, .int 0, .int 0, .int 0, .ref (b + 4), .ref (b + 5), .int 0, .int 0, .int 0, .ref (b + 6), .null, .null, .null, .null, .int 0, .null, .null, .int 0, .null, .null, .null]) C hw rfl wi_X11 tyX11_ok nmX11 (by decide) (by decide) rfl (Nat.le_of_ble_eq_true rfl) (fun _ => hmn) rfl (by decide +kernel) (x_mem (i := 1134) (by decide +kernel) (by decide +kernel)) rfl rfl dX11_init_63 (fun H locs hw => ?_)
  refine lv_aload_n hx hb dX11_init_66 rfl (lv_at hl 0 rfl) ?_
  refine lv_bipush (v := (24 : Int32)) hx hb dX11_init_67 (by decide) ?_
  refine sg_newi (v := (24 : Int32)) (N := 24) C hw (x_mem (i := 117) (by decide +kernel) (by decide +kernel)) (by decide) (by decide) (Nat.le_of_ble_eq_true rfl) (Nat.le_of_ble_eq_true rfl) (Nat.le_of_ble_eq_true rfl) dX11_init_69 (fun H hw => ?_)
  refine sg_put (i := 0) (ci := 11) (j := 21) (N := 31) (T := TX11) (ty0 := tyX11) (ty := .array .int) (fs := [.ref (b + 1), .ref (b + 2), .int 0, .ref (b + 3), .int 0, .int 0, .int 0, .int 0, .int 0, .int 0, .int 0, .int 0, .int 0, .int 0, .ref (b + 4), .ref (b + 5), .int 0, .int 0, .int 0, .ref (b + 6), .ref (b + 7), .null, .null, .null, .int 0, .null, .null, .int 0, .null, .null, .null]) C hw rfl wi_X11 tyX11_ok nmX11 (by decide) (by decide) rfl (Nat.le_of_ble_eq_true rfl) (fun _ => hmn) rfl (by decide +kernel) (x_mem (i := 1135) (by decide +kernel) (by decide +kernel)) rfl rfl dX11_init_71 (fun H locs hw => ?_)
  refine lv_aload_n hx hb dX11_init_74 rfl (lv_at hl 0 rfl) ?_
  refine lv_bipush (v := (16 : Int32)) hx hb dX11_init_75 (by decide) ?_
  refine sg_newi (v := (16 : Int32)) (N := 16) C hw (x_mem (i := 117) (by decide +kernel) (by decide +kernel)) (by decide) (by decide) (Nat.le_of_ble_eq_true rfl) (Nat.le_of_ble_eq_true rfl) (Nat.le_of_ble_eq_true rfl) dX11_init_77 (fun H hw => ?_)
  refine sg_put (i := 0) (ci := 11) (j := 22) (N := 31) (T := TX11) (ty0 := tyX11) (ty := .array .int) (fs := [.ref (b + 1), .ref (b + 2), .int 0, .ref (b + 3), .int 0, .int 0, .int 0, .int 0, .int 0, .int 0, .int 0, .int 0, .int 0, .int 0, .ref (b + 4), .ref (b + 5), .int 0, .int 0, .int 0, .ref (b + 6), .ref (b + 7), .ref (b + 8), .null, .null, .int 0, .null, .null, .int 0, .null, .null, .null]) C hw rfl wi_X11 tyX11_ok nmX11 (by decide) (by decide) rfl (Nat.le_of_ble_eq_true rfl) (fun _ => hmn) rfl (by decide +kernel) (x_mem (i := 1136) (by decide +kernel) (by decide +kernel)) rfl rfl dX11_init_79 (fun H locs hw => ?_)
  refine lv_aload_n hx hb dX11_init_82 rfl (lv_at hl 0 rfl) ?_
  refine lv_bipush (v := (16 : Int32)) hx hb dX11_init_83 (by decide) ?_
  refine sg_newi (v := (16 : Int32)) (N := 16) C hw (x_mem (i := 117) (by decide +kernel) (by decide +kernel)) (by decide) (by decide) (Nat.le_of_ble_eq_true rfl) (Nat.le_of_ble_eq_true rfl) (Nat.le_of_ble_eq_true rfl) dX11_init_85 (fun H hw => ?_)
  refine sg_put (i := 0) (ci := 11) (j := 23) (N := 31) (T := TX11) (ty0 := tyX11) (ty := .array .int) (fs := [.ref (b + 1), .ref (b + 2), .int 0, .ref (b + 3), .int 0, .int 0, .int 0, .int 0, .int 0, .int 0, .int 0, .int 0, .int 0, .int 0, .ref (b + 4), .ref (b + 5), .int 0, .int 0, .int 0, .ref (b + 6), .ref (b + 7), .ref (b + 8), .ref (b + 9), .null, .int 0, .null, .null, .int 0, .null, .null, .null]) C hw rfl wi_X11 tyX11_ok nmX11 (by decide) (by decide) rfl (Nat.le_of_ble_eq_true rfl) (fun _ => hmn) rfl (by decide +kernel) (x_mem (i := 1137) (by decide +kernel) (by decide +kernel)) rfl rfl dX11_init_87 (fun H locs hw => ?_)
  refine lv_aload_n hx hb dX11_init_90 rfl (lv_at hl 0 rfl) ?_
  refine lv_bipush (v := (24 : Int32)) hx hb dX11_init_91 (by decide) ?_
  refine sg_newi (v := (24 : Int32)) (N := 24) C hw (x_mem (i := 117) (by decide +kernel) (by decide +kernel)) (by decide) (by decide) (Nat.le_of_ble_eq_true rfl) (Nat.le_of_ble_eq_true rfl) (Nat.le_of_ble_eq_true rfl) dX11_init_93 (fun H hw => ?_)
  refine sg_put (i := 0) (ci := 11) (j := 25) (N := 31) (T := TX11) (ty0 := tyX11) (ty := .array .int) (fs := [.ref (b + 1), .ref (b + 2), .int 0, .ref (b + 3), .int 0, .int 0, .int 0, .int 0, .int 0, .int 0, .int 0, .int 0, .int 0, .int 0, .ref (b + 4), .ref (b + 5), .int 0, .int 0, .int 0, .ref (b + 6), .ref (b + 7), .ref (b + 8), .ref (b + 9), .ref (b + 10), .int 0, .null, .null, .int 0, .null, .null, .null]) C hw rfl wi_X11 tyX11_ok nmX11 (by decide) (by decide) rfl (Nat.le_of_ble_eq_true rfl) (fun _ => hmn) rfl (by decide +kernel) (x_mem (i := 1139) (by decide +kernel) (by decide +kernel)) rfl rfl dX11_init_95 (fun H locs hw => ?_)
  refine lv_aload_n hx hb dX11_init_98 rfl (lv_at hl 0 rfl) ?_
  refine lv_bipush (v := (30 : Int32)) hx hb dX11_init_99 (by decide) ?_
  refine sg_newi (v := (30 : Int32)) (N := 30) C hw (x_mem (i := 117) (by decide +kernel) (by decide +kernel)) (by decide) (by decide) (Nat.le_of_ble_eq_true rfl) (Nat.le_of_ble_eq_true rfl) (Nat.le_of_ble_eq_true rfl) dX11_init_101 (fun H hw => ?_)
  refine sg_put (i := 0) (ci := 11) (j := 26) (N := 31) (T := TX11) (ty0 := tyX11) (ty := .array .int) (fs := [.ref (b + 1), .ref (b + 2), .int 0, .ref (b + 3), .int 0, .int 0, .int 0, .int 0, .int 0, .int 0, .int 0, .int 0, .int 0, .int 0, .ref (b + 4), .ref (b + 5), .int 0, .int 0, .int 0, .ref (b + 6), .ref (b + 7), .ref (b + 8), .ref (b + 9), .ref (b + 10), .int 0, .ref (b + 11), .null, .int 0, .null, .null, .null]) C hw rfl wi_X11 tyX11_ok nmX11 (by decide) (by decide) rfl (Nat.le_of_ble_eq_true rfl) (fun _ => hmn) rfl (by decide +kernel) (x_mem (i := 1140) (by decide +kernel) (by decide +kernel)) rfl rfl dX11_init_103 (fun H locs hw => ?_)
  refine lv_aload_n hx hb dX11_init_106 rfl (lv_at hl 0 rfl) ?_
  refine lv_bipush (v := (48 : Int32)) hx hb dX11_init_107 (by decide) ?_
  refine sg_newi (v := (48 : Int32)) (N := 48) C hw (x_mem (i := 117) (by decide +kernel) (by decide +kernel)) (by decide) (by decide) (Nat.le_of_ble_eq_true rfl) (Nat.le_of_ble_eq_true rfl) (Nat.le_of_ble_eq_true rfl) dX11_init_109 (fun H hw => ?_)
  refine sg_put (i := 0) (ci := 11) (j := 28) (N := 31) (T := TX11) (ty0 := tyX11) (ty := .array .int) (fs := [.ref (b + 1), .ref (b + 2), .int 0, .ref (b + 3), .int 0, .int 0, .int 0, .int 0, .int 0, .int 0, .int 0, .int 0, .int 0, .int 0, .ref (b + 4), .ref (b + 5), .int 0, .int 0, .int 0, .ref (b + 6), .ref (b + 7), .ref (b + 8), .ref (b + 9), .ref (b + 10), .int 0, .ref (b + 11), .ref (b + 12), .int 0, .null, .null, .null]) C hw rfl wi_X11 tyX11_ok nmX11 (by decide) (by decide) rfl (Nat.le_of_ble_eq_true rfl) (fun _ => hmn) rfl (by decide +kernel) (x_mem (i := 1142) (by decide +kernel) (by decide +kernel)) rfl rfl dX11_init_111 (fun H locs hw => ?_)
  refine lv_aload_n hx hb dX11_init_114 rfl (lv_at hl 0 rfl) ?_
  refine lv_iconst (v := (2 : Int32)) hx hb dX11_init_115 (by decide) ?_
  refine sg_newi (v := (2 : Int32)) (N := 2) C hw (x_mem (i := 117) (by decide +kernel) (by decide +kernel)) (by decide) (by decide) (Nat.le_of_ble_eq_true rfl) (Nat.le_of_ble_eq_true rfl) (Nat.le_of_ble_eq_true rfl) dX11_init_116 (fun H hw => ?_)
  refine lv_dup hx hb dX11_init_118 rfl ?_
  refine lv_iconst (v := (0 : Int32)) hx hb dX11_init_119 (by decide) ?_
  refine lv_iconst (v := (-1 : Int32)) hx hb dX11_init_120 (by decide) ?_
  refine sg_iast (i := 14) (x := (0 : Int32)) C hw (by decide) rfl (show ¬ ((0 : Int32) < 0 ∨ 2 ≤ (0 : Int32).toNatClampNeg) by decide) dX11_init_121 (fun H locs hw => ?_)
  refine lv_dup hx hb dX11_init_122 rfl ?_
  refine lv_iconst (v := (1 : Int32)) hx hb dX11_init_123 (by decide) ?_
  refine lv_iconst (v := (-1 : Int32)) hx hb dX11_init_124 (by decide) ?_
  refine sg_iast (i := 14) (x := (1 : Int32)) C hw (by decide) rfl (show ¬ ((1 : Int32) < 0 ∨ 2 ≤ (1 : Int32).toNatClampNeg) by decide) dX11_init_125 (fun H locs hw => ?_)
  refine sg_put (i := 0) (ci := 11) (j := 29) (N := 31) (T := TX11) (ty0 := tyX11) (ty := .array .int) (fs := [.ref (b + 1), .ref (b + 2), .int 0, .ref (b + 3), .int 0, .int 0, .int 0, .int 0, .int 0, .int 0, .int 0, .int 0, .int 0, .int 0, .ref (b + 4), .ref (b + 5), .int 0, .int 0, .int 0, .ref (b + 6), .ref (b + 7), .ref (b + 8), .ref (b + 9), .ref (b + 10), .int 0, .ref (b + 11), .ref (b + 12), .int 0, .ref (b + 13), .null, .null]) C hw rfl wi_X11 tyX11_ok nmX11 (by decide) (by decide) rfl (Nat.le_of_ble_eq_true rfl) (fun _ => hmn) rfl (by decide +kernel) (x_mem (i := 1143) (by decide +kernel) (by decide +kernel)) rfl rfl dX11_init_126 (fun H locs hw => ?_)
  refine lv_aload_n hx hb dX11_init_129 rfl (lv_at hl 0 rfl) ?_
  refine lv_bipush (v := (24 : Int32)) hx hb dX11_init_130 (by decide) ?_
  refine sg_newi (v := (24 : Int32)) (N := 24) C hw (x_mem (i := 117) (by decide +kernel) (by decide +kernel)) (by decide) (by decide) (Nat.le_of_ble_eq_true rfl) (Nat.le_of_ble_eq_true rfl) (Nat.le_of_ble_eq_true rfl) dX11_init_132 (fun H hw => ?_)
  refine sg_put (i := 0) (ci := 11) (j := 30) (N := 31) (T := TX11) (ty0 := tyX11) (ty := .array .int) (fs := [.ref (b + 1), .ref (b + 2), .int 0, .ref (b + 3), .int 0, .int 0, .int 0, .int 0, .int 0, .int 0, .int 0, .int 0, .int 0, .int 0, .ref (b + 4), .ref (b + 5), .int 0, .int 0, .int 0, .ref (b + 6), .ref (b + 7), .ref (b + 8), .ref (b + 9), .ref (b + 10), .int 0, .ref (b + 11), .ref (b + 12), .int 0, .ref (b + 13), .ref (b + 14), .null]) C hw rfl wi_X11 tyX11_ok nmX11 (by decide) (by decide) rfl (Nat.le_of_ble_eq_true rfl) (fun _ => hmn) rfl (by decide +kernel) (x_mem (i := 1144) (by decide +kernel) (by decide +kernel)) rfl rfl dX11_init_134 (fun H locs hw => ?_)
  refine lv_bipush (v := (16 : Int32)) hx hb dX11_init_137 (by decide) ?_
  refine sg_newi (v := (16 : Int32)) (N := 16) C hw (x_mem (i := 117) (by decide +kernel) (by decide +kernel)) (by decide) (by decide) (Nat.le_of_ble_eq_true rfl) (Nat.le_of_ble_eq_true rfl) (Nat.le_of_ble_eq_true rfl) dX11_init_139 (fun H hw => ?_)
  refine lv_dup hx hb dX11_init_141 rfl ?_
  refine lv_iconst (v := (0 : Int32)) hx hb dX11_init_142 (by decide) ?_
  refine lv_sipush (v := (1000 : Int32)) hx hb dX11_init_143 (by decide) ?_
  refine sg_iast (i := 16) (x := (0 : Int32)) C hw (by decide) rfl (show ¬ ((0 : Int32) < 0 ∨ 16 ≤ (0 : Int32).toNatClampNeg) by decide) dX11_init_146 (fun H locs hw => ?_)
  refine lv_dup hx hb dX11_init_147 rfl ?_
  refine lv_iconst (v := (1 : Int32)) hx hb dX11_init_148 (by decide) ?_
  refine lv_sipush (v := (365 : Int32)) hx hb dX11_init_149 (by decide) ?_
  refine sg_iast (i := 16) (x := (1 : Int32)) C hw (by decide) rfl (show ¬ ((1 : Int32) < 0 ∨ 16 ≤ (1 : Int32).toNatClampNeg) by decide) dX11_init_152 (fun H locs hw => ?_)
  refine lv_dup hx hb dX11_init_153 rfl ?_
  refine lv_iconst (v := (2 : Int32)) hx hb dX11_init_154 (by decide) ?_
  refine lv_iconst (v := (1 : Int32)) hx hb dX11_init_155 (by decide) ?_
  refine sg_iast (i := 16) (x := (2 : Int32)) C hw (by decide) rfl (show ¬ ((2 : Int32) < 0 ∨ 16 ≤ (2 : Int32).toNatClampNeg) by decide) dX11_init_156 (fun H locs hw => ?_)
  refine lv_dup hx hb dX11_init_157 rfl ?_
  refine lv_iconst (v := (3 : Int32)) hx hb dX11_init_158 (by decide) ?_
  refine lv_bipush (v := (120 : Int32)) hx hb dX11_init_159 (by decide) ?_
  refine sg_iast (i := 16) (x := (3 : Int32)) C hw (by decide) rfl (show ¬ ((3 : Int32) < 0 ∨ 16 ≤ (3 : Int32).toNatClampNeg) by decide) dX11_init_161 (fun H locs hw => ?_)
  refine lv_dup hx hb dX11_init_162 rfl ?_
  refine lv_iconst (v := (4 : Int32)) hx hb dX11_init_163 (by decide) ?_
  refine lv_bipush (v := (50 : Int32)) hx hb dX11_init_164 (by decide) ?_
  refine sg_iast (i := 16) (x := (4 : Int32)) C hw (by decide) rfl (show ¬ ((4 : Int32) < 0 ∨ 16 ≤ (4 : Int32).toNatClampNeg) by decide) dX11_init_166 (fun H locs hw => ?_)
  refine lv_dup hx hb dX11_init_167 rfl ?_
  refine lv_iconst (v := (5 : Int32)) hx hb dX11_init_168 (by decide) ?_
  refine lv_sipush (v := (240 : Int32)) hx hb dX11_init_169 (by decide) ?_
  refine sg_iast (i := 16) (x := (5 : Int32)) C hw (by decide) rfl (show ¬ ((5 : Int32) < 0 ∨ 16 ≤ (5 : Int32).toNatClampNeg) by decide) dX11_init_172 (fun H locs hw => ?_)
  refine lv_dup hx hb dX11_init_173 rfl ?_
  refine lv_bipush (v := (6 : Int32)) hx hb dX11_init_174 (by decide) ?_
  refine lv_iconst (v := (1 : Int32)) hx hb dX11_init_176 (by decide) ?_
  refine sg_iast (i := 16) (x := (6 : Int32)) C hw (by decide) rfl (show ¬ ((6 : Int32) < 0 ∨ 16 ≤ (6 : Int32).toNatClampNeg) by decide) dX11_init_177 (fun H locs hw => ?_)
  refine lv_dup hx hb dX11_init_178 rfl ?_
  refine lv_bipush (v := (7 : Int32)) hx hb dX11_init_179 (by decide) ?_
  refine lv_sipush (v := (1000 : Int32)) hx hb dX11_init_181 (by decide) ?_
  refine sg_iast (i := 16) (x := (7 : Int32)) C hw (by decide) rfl (show ¬ ((7 : Int32) < 0 ∨ 16 ≤ (7 : Int32).toNatClampNeg) by decide) dX11_init_184 (fun H locs hw => ?_)
  refine lv_dup hx hb dX11_init_185 rfl ?_
  refine lv_bipush (v := (8 : Int32)) hx hb dX11_init_186 (by decide) ?_
  refine lv_bipush (v := (30 : Int32)) hx hb dX11_init_188 (by decide) ?_
  refine sg_iast (i := 16) (x := (8 : Int32)) C hw (by decide) rfl (show ¬ ((8 : Int32) < 0 ∨ 16 ≤ (8 : Int32).toNatClampNeg) by decide) dX11_init_190 (fun H locs hw => ?_)
  refine lv_dup hx hb dX11_init_191 rfl ?_
  refine lv_bipush (v := (9 : Int32)) hx hb dX11_init_192 (by decide) ?_
  refine lv_sipush (v := (400 : Int32)) hx hb dX11_init_194 (by decide) ?_
  refine sg_iast (i := 16) (x := (9 : Int32)) C hw (by decide) rfl (show ¬ ((9 : Int32) < 0 ∨ 16 ≤ (9 : Int32).toNatClampNeg) by decide) dX11_init_197 (fun H locs hw => ?_)
  refine lv_dup hx hb dX11_init_198 rfl ?_
  refine lv_bipush (v := (10 : Int32)) hx hb dX11_init_199 (by decide) ?_
  refine lv_iconst (v := (4 : Int32)) hx hb dX11_init_201 (by decide) ?_
  refine sg_iast (i := 16) (x := (10 : Int32)) C hw (by decide) rfl (show ¬ ((10 : Int32) < 0 ∨ 16 ≤ (10 : Int32).toNatClampNeg) by decide) dX11_init_202 (fun H locs hw => ?_)
  refine lv_dup hx hb dX11_init_203 rfl ?_
  refine lv_bipush (v := (11 : Int32)) hx hb dX11_init_204 (by decide) ?_
  refine lv_bipush (v := (30 : Int32)) hx hb dX11_init_206 (by decide) ?_
  refine sg_iast (i := 16) (x := (11 : Int32)) C hw (by decide) rfl (show ¬ ((11 : Int32) < 0 ∨ 16 ≤ (11 : Int32).toNatClampNeg) by decide) dX11_init_208 (fun H locs hw => ?_)
  refine lv_dup hx hb dX11_init_209 rfl ?_
  refine lv_bipush (v := (12 : Int32)) hx hb dX11_init_210 (by decide) ?_
  refine lv_sipush (v := (365 : Int32)) hx hb dX11_init_212 (by decide) ?_
  refine sg_iast (i := 16) (x := (12 : Int32)) C hw (by decide) rfl (show ¬ ((12 : Int32) < 0 ∨ 16 ≤ (12 : Int32).toNatClampNeg) by decide) dX11_init_215 (fun H locs hw => ?_)
  refine lv_dup hx hb dX11_init_216 rfl ?_
  refine lv_bipush (v := (13 : Int32)) hx hb dX11_init_217 (by decide) ?_
  refine lv_sipush (v := (300 : Int32)) hx hb dX11_init_219 (by decide) ?_
  refine sg_iast (i := 16) (x := (13 : Int32)) C hw (by decide) rfl (show ¬ ((13 : Int32) < 0 ∨ 16 ≤ (13 : Int32).toNatClampNeg) by decide) dX11_init_222 (fun H locs hw => ?_)
  refine lv_dup hx hb dX11_init_223 rfl ?_
  refine lv_bipush (v := (14 : Int32)) hx hb dX11_init_224 (by decide) ?_
  refine lv_bipush (v := (50 : Int32)) hx hb dX11_init_226 (by decide) ?_
  refine sg_iast (i := 16) (x := (14 : Int32)) C hw (by decide) rfl (show ¬ ((14 : Int32) < 0 ∨ 16 ≤ (14 : Int32).toNatClampNeg) by decide) dX11_init_228 (fun H locs hw => ?_)
  refine lv_dup hx hb dX11_init_229 rfl ?_
  refine lv_bipush (v := (15 : Int32)) hx hb dX11_init_230 (by decide) ?_
  refine lv_iconst (v := (0 : Int32)) hx hb dX11_init_232 (by decide) ?_
  refine sg_iast (i := 16) (x := (15 : Int32)) C hw (by decide) rfl (show ¬ ((15 : Int32) < 0 ∨ 16 ≤ (15 : Int32).toNatClampNeg) by decide) dX11_init_233 (fun H locs hw => ?_)
  have hw : sg_w g b 17 (eM g b 0) s H locs := by
    refine hw.to (fun i hi => ?_)
    match i, hi with
    | 0, _ => rfl
    | 1, _ => exact congrArg (fun f => (Sum.inl (g.2.1 0, 1675, .inl f) : va_E)) mS_0.symm
    | 2, _ => rfl
    | 3, _ => rfl
    | 4, _ => rfl
    | 5, _ => rfl
    | 6, _ => rfl
    | 7, _ => rfl
    | 8, _ => rfl
    | 9, _ => rfl
    | 10, _ => rfl
    | 11, _ => rfl
    | 12, _ => rfl
    | 13, _ => rfl
    | 14, _ => rfl
    | 15, _ => rfl
    | 16, _ => rfl
    | i + 17, h => exact absurd h (by omega)
  refine lv_astore_n (lv' := [(1, .ref (b + 16)), (0, .ref b)]) hx hb dX11_init_234 rfl hl (by decide) rfl (fun ls hl => ?_)
  refine lv_iconst (v := (0 : Int32)) hx hb dX11_init_235 (by decide) ?_
  refine lv_istore_n (lv' := [(2, .int (nI 0)), (1, .ref (b + 16)), (0, .ref b)]) hx hb dX11_init_236 rfl hl (by decide) rfl (fun ls hl => ?_)
  refine kM C (fun H locs ls hw => ?_) 16 0 H locs ls (by decide) (by decide) hw hl
  exact ret (fun i _ => rfl) dX11_init_260 hw
