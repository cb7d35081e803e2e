theorem lo_X10 : sg_lO RX10 1 := ⟨x_mem (i := 65) (by decide +kernel) (by decide +kernel), x_mem (i := 66) (by decide +kernel) (by decide +kernel), x_mem (i := 67) (by decide +kernel) (by decide +kernel)⟩
theorem li_X10_9 : sg_lI RX10 9 yX8_init cX8_init 2 := ⟨x_mem (i := 70) (by decide +kernel) (by decide +kernel), x_mem (i := 71) (by decide +kernel) (by decide +kernel), x_mem (i := 42) (by decide +kernel) (by decide +kernel), x_mem (i := 72) (by decide +kernel) (by decide +kernel), rfl, by decide +kernel, by decide +kernel, by decide +kernel⟩
theorem li_X10_25 : sg_lN RX10 25 yX6_init "DayFines" cX6_init 1 := ⟨List.mem_of_getElem? (i := 316) (by decide +kernel), x_mem (i := 317) (by decide +kernel) (by decide +kernel), x_mem (i := 49) (by decide +kernel) (by decide +kernel), x_mem (i := 318) (by decide +kernel) (by decide +kernel), rfl, by decide +kernel, by decide +kernel, by decide +kernel⟩
theorem li_X10_32 : sg_lN RX10 32 yX5_init "DayFines" cX5_init 1 := ⟨List.mem_of_getElem? (i := 374) (by decide +kernel), x_mem (i := 375) (by decide +kernel) (by decide +kernel), x_mem (i := 51) (by decide +kernel) (by decide +kernel), x_mem (i := 376) (by decide +kernel) (by decide +kernel), rfl, by decide +kernel, by decide +kernel, by decide +kernel⟩
def eX10t (g : xG) (b : Nat) : Nat → va_E := fun i => match i with
  | 0 => .inr (6, [.ref (b + 336), .ref (b + 338), .ref (b + 341), .int (0), .int (0), .int (0), .int (-1), .int (0)])
  | 1 => .inr (9, [.ref (b + 337), .int (0), .int (0), .int (0)])
  | 2 => .inl (g.2.1 0, 120, .inl (fun _ => 0))
  | 3 => .inr (3, [.ref (b + 339), .ref (b + 340), .int (0), .int (0)])
  | 4 => .inl (g.2.1 0, 120, .inl (fun _ => 0))
  | 5 => .inl (g.2.1 0, 3, .inl (fun _ => 0))
  | 6 => .inl (g.2.1 0, 120, .inl (fun _ => 0))
  | 7 => .inr (5, [.ref (b + 343), .ref (b + 344), .int (0), .int (0)])
  | 8 => .inl (g.2.1 0, 24, .inl (fun _ => 0))
  | 9 => .inl (g.2.1 0, 24, .inl (fun _ => 0))
  | 10 => .inl (g.2.1 0, 30, .inl (fun _ => 0))
  | 11 => .inl (g.2.1 6, 2, .inr (.inr (.inr (.inr (fun j => if j < 2 then some (b + 346 + 1 + j) else none)))))
  | 12 => .inl (g.2.1 0, 24, .inl (fun _ => 0))
  | 13 => .inl (g.2.1 0, 24, .inl (fun _ => 0))
  | 14 => .inl (g.2.1 1, 2, .inl (upd (upd (fun _ => 0) (0 : Int32).toNatClampNeg (1)) (1 : Int32).toNatClampNeg (1)))
  | _ => .inl (g.2.1 0, 2, .inl (fun _ => 0))
def eX10 (g : xG) (b : Nat) : Nat → va_E := fun i => if i = 0 then .inr (10, [.ref (b + 1), .ref (b + 168), .int (0), .ref (b + 335), .ref (b + 342), .ref (b + 345), .int (0), .ref (b + 346), .ref (b + 349), .ref (b + 350)]) else if i < 168 then eS8 g (b + 1) (i - 1) else if i < 335 then eS8 g (b + 168) (i - 168) else eX10t g b (i - 335)
set_option maxRecDepth 100000 in
set_option maxHeartbeats 4000000 in
theorem kX10 (l : Launch) (g : xG) : sg_c l g yX10_init cX10_init 1 3 53 350 3283 10 [.null, .null, .int 0, .null, .null, .null, .int 0, .null, .null, .null] 351 (eX10 g) := by
  refine sg_st RX10 (by decide) rfl rfl (by decide) ?_
  intro b p e s m args below meth c Q ls C hmn hw ret hl
  obtain ⟨hx, hb, -⟩ := id C
  refine lv_aload_n hx hb dX10_init_0 rfl (lv_at hl 0 rfl) ?_
  refine sg_obj C hl.1 lo_X10 (Nat.le_of_ble_eq_true rfl) (Nat.le_of_ble_eq_true rfl) dX10_init_1 ?_
  refine lv_aload_n hx hb dX10_init_4 rfl (lv_at hl 0 rfl) ?_
  refine sg_new (ci := 8) (N := 13) (T := TX8) (ty := tyX8) (fs := [.int 0, .int 0, .int 0, .int 0, .int 0, .null, .null, .null, .null, .null, .null, .null, .null]) C hw rfl wi_X8 tyX8_ok (x_mem (i := 68) (by decide +kernel) (by decide +kernel)) (x_mem (i := 69) (by decide +kernel) (by decide +kernel)) (x_mem (i := 42) (by decide +kernel) (by decide +kernel)) (by decide) (Nat.le_of_ble_eq_true rfl) (Nat.le_of_ble_eq_true rfl) dX10_init_5 (fun H hw => ?_)
  refine lv_dup hx hb dX10_init_8 rfl ?_
  refine sg_iI (n := 1) (n1 := 167) C hw hl.1 [.ref (b + 1), .ref b] rfl (kX8 l g) li_X10_9 ⟨Nat.le_of_ble_eq_true rfl, Nat.le_of_ble_eq_true rfl⟩ (Nat.le_of_ble_eq_true rfl) ⟨Nat.le_of_ble_eq_true rfl, Nat.le_of_ble_eq_true rfl⟩ dX10_init_9 (fun H locs hw => ?_)
  refine sg_put (i := 0) (ci := 10) (j := 0) (N := 10) (T := TX10) (ty0 := tyX10) (ty := .object "DayFines$State") (fs := [.null, .null, .int 0, .null, .null, .null, .int 0, .null, .null, .null]) C hw rfl wi_X10 tyX10_ok nmX10 (by decide) (by decide) rfl (Nat.le_of_ble_eq_true rfl) (fun _ => hmn) rfl (by decide +kernel) (x_mem (i := 395) (by decide +kernel) (by decide +kernel)) rfl rfl dX10_init_12 (fun H locs hw => ?_)
  refine lv_aload_n hx hb dX10_init_15 rfl (lv_at hl 0 rfl) ?_
  refine sg_new (ci := 8) (N := 13) (T := TX8) (ty := tyX8) (fs := [.int 0, .int 0, .int 0, .int 0, .int 0, .null, .null, .null, .null, .null, .null, .null, .null]) C hw rfl wi_X8 tyX8_ok (x_mem (i := 68) (by decide +kernel) (by decide +kernel)) (x_mem (i := 69) (by decide +kernel) (by decide +kernel)) (x_mem (i := 42) (by decide +kernel) (by decide +kernel)) (by decide) (Nat.le_of_ble_eq_true rfl) (Nat.le_of_ble_eq_true rfl) dX10_init_16 (fun H hw => ?_)
  refine lv_dup hx hb dX10_init_19 rfl ?_
  refine sg_iI (n := 168) (n1 := 167) C hw hl.1 [.ref (b + 168), .ref b] rfl (kX8 l g) li_X10_9 ⟨Nat.le_of_ble_eq_true rfl, Nat.le_of_ble_eq_true rfl⟩ (Nat.le_of_ble_eq_true rfl) ⟨Nat.le_of_ble_eq_true rfl, Nat.le_of_ble_eq_true rfl⟩ dX10_init_20 (fun H locs hw => ?_)
  refine sg_put (i := 0) (ci := 10) (j := 1) (N := 10) (T := TX10) (ty0 := tyX10) (ty := .object "DayFines$State") (fs := [.ref (b + 1), .null, .int 0, .null, .null, .null, .int 0, .null, .null, .null]) C hw rfl wi_X10 tyX10_ok nmX10 (by decide) (by decide) rfl (Nat.le_of_ble_eq_true rfl) (fun _ => hmn) rfl (by decide +kernel) (x_mem (i := 396) (by decide +kernel) (by decide +kernel)) rfl rfl dX10_init_23 (fun H locs hw => ?_)
  refine lv_aload_n hx hb dX10_init_26 rfl (lv_at hl 0 rfl) ?_
  refine lv_iconst (v := (0 : Int32)) hx hb dX10_init_27 (by decide) ?_
  refine sg_put (i := 0) (ci := 10) (j := 2) (N := 10) (T := TX10) (ty0 := tyX10) (ty := .boolean) (fs := [.ref (b + 1), .ref (b + 168), .int 0, .null, .null, .null, .int 0, .null, .null, .null]) C hw rfl wi_X10 tyX10_ok nmX10 (by decide) (by decide) rfl (Nat.le_of_ble_eq_true rfl) (fun _ => hmn) rfl (by decide +kernel) (x_mem (i := 397) (by decide +kernel) (by decide +kernel)) rfl rfl dX10_init_28 (fun H locs hw => ?_)
  refine lv_aload_n hx hb dX10_init_31 rfl (lv_at hl 0 rfl) ?_
  refine sg_new (ci := 6) (N := 8) (T := TX6) (ty := tyX6) (fs := [.null, .null, .null, .int 0, .int 0, .int 0, .int 0, .int 0]) C hw rfl wi_X6 tyX6_ok (x_mem (i := 314) (by decide +kernel) (by decide +kernel)) (x_mem (i := 315) (by decide +kernel) (by decide +kernel)) (x_mem (i := 49) (by decide +kernel) (by decide +kernel)) (by decide) (Nat.le_of_ble_eq_true rfl) (Nat.le_of_ble_eq_true rfl) dX10_init_32 (fun H hw => ?_)
  refine lv_dup hx hb dX10_init_35 rfl ?_
  refine sg_iN (n := 335) (n1 := 7) C hw hl.1 [.ref (b + 335), .ref b] rfl (kX6 l g) li_X10_25 ⟨Nat.le_of_ble_eq_true rfl, Nat.le_of_ble_eq_true rfl⟩ (Nat.le_of_ble_eq_true rfl) ⟨Nat.le_of_ble_eq_true rfl, Nat.le_of_ble_eq_true rfl⟩ dX10_init_36 (fun H locs hw => ?_)
  refine sg_put (i := 0) (ci := 10) (j := 3) (N := 10) (T := TX10) (ty0 := tyX10) (ty := .object "DayFines$Reader") (fs := [.ref (b + 1), .ref (b + 168), .int (0), .null, .null, .null, .int 0, .null, .null, .null]) C hw rfl wi_X10 tyX10_ok nmX10 (by decide) (by decide) rfl (Nat.le_of_ble_eq_true rfl) (fun _ => hmn) rfl (by decide +kernel) (x_mem (i := 398) (by decide +kernel) (by decide +kernel)) rfl rfl dX10_init_39 (fun H locs hw => ?_)
  refine lv_aload_n hx hb dX10_init_42 rfl (lv_at hl 0 rfl) ?_
  refine sg_new (ci := 5) (N := 4) (T := TX5) (ty := tyX5) (fs := [.null, .null, .int 0, .int 0]) C hw rfl wi_X5 tyX5_ok (x_mem (i := 372) (by decide +kernel) (by decide +kernel)) (x_mem (i := 373) (by decide +kernel) (by decide +kernel)) (x_mem (i := 51) (by decide +kernel) (by decide +kernel)) (by decide) (Nat.le_of_ble_eq_true rfl) (Nat.le_of_ble_eq_true rfl) dX10_init_43 (fun H hw => ?_)
  refine lv_dup hx hb dX10_init_46 rfl ?_
  refine sg_iN (n := 342) (n1 := 3) C hw hl.1 [.ref (b + 342), .ref b] rfl (kX5 l g) li_X10_32 ⟨Nat.le_of_ble_eq_true rfl, Nat.le_of_ble_eq_true rfl⟩ (Nat.le_of_ble_eq_true rfl) ⟨Nat.le_of_ble_eq_true rfl, Nat.le_of_ble_eq_true rfl⟩ dX10_init_47 (fun H locs hw => ?_)
  refine sg_put (i := 0) (ci := 10) (j := 4) (N := 10) (T := TX10) (ty0 := tyX10) (ty := .object "DayFines$Plan") (fs := [.ref (b + 1), .ref (b + 168), .int (0), .ref (b + 335), .null, .null, .int 0, .null, .null, .null]) C hw rfl wi_X10 tyX10_ok nmX10 (by decide) (by decide) rfl (Nat.le_of_ble_eq_true rfl) (fun _ => hmn) rfl (by decide +kernel) (x_mem (i := 399) (by decide +kernel) (by decide +kernel)) rfl rfl dX10_init_50 (fun H locs hw => ?_)
  refine lv_aload_n hx hb dX10_init_53 rfl (lv_at hl 0 rfl) ?_
  refine lv_bipush (v := (30 : Int32)) hx hb dX10_init_54 (by decide) ?_
  refine sg_newi (v := (30 : Int32)) (N := 30) C hw (x_mem (i := 117) (by decide +kernel) (by decide +kernel)) (by decide) (by decide) (Nat.le_of_ble_eq_true rfl) (Nat.le_of_ble_eq_true rfl) (Nat.le_of_ble_eq_true rfl) dX10_init_56 (fun H hw => ?_)
  refine sg_put (i := 0) (ci := 10) (j := 5) (N := 10) (T := TX10) (ty0 := tyX10) (ty := .array .int) (fs := [.ref (b + 1), .ref (b + 168), .int (0), .ref (b + 335), .ref (b + 342), .null, .int 0, .null, .null, .null]) C hw rfl wi_X10 tyX10_ok nmX10 (by decide) (by decide) rfl (Nat.le_of_ble_eq_true rfl) (fun _ => hmn) rfl (by decide +kernel) (x_mem (i := 400) (by decide +kernel) (by decide +kernel)) rfl rfl dX10_init_58 (fun H locs hw => ?_)
  refine lv_aload_n hx hb dX10_init_61 rfl (lv_at hl 0 rfl) ?_
  refine lv_iconst (v := (0 : Int32)) hx hb dX10_init_62 (by decide) ?_
  refine sg_put (i := 0) (ci := 10) (j := 6) (N := 10) (T := TX10) (ty0 := tyX10) (ty := .int) (fs := [.ref (b + 1), .ref (b + 168), .int (0), .ref (b + 335), .ref (b + 342), .ref (b + 345), .int 0, .null, .null, .null]) C hw rfl wi_X10 tyX10_ok nmX10 (by decide) (by decide) rfl (Nat.le_of_ble_eq_true rfl) (fun _ => hmn) rfl (by decide +kernel) (x_mem (i := 401) (by decide +kernel) (by decide +kernel)) rfl rfl dX10_init_63 (fun H locs hw => ?_)
  refine lv_aload_n hx hb dX10_init_66 rfl (lv_at hl 0 rfl) ?_
  refine lv_iconst (v := (2 : Int32)) hx hb dX10_init_67 (by decide) ?_
  refine lv_bipush (v := (24 : Int32)) hx hb dX10_init_68 (by decide) ?_
  refine sg_multi (n := 346) (N := 2) (K := 24) (v := (2 : Int32)) (w := (24 : Int32)) C hw (x_mem (i := 117) (by decide +kernel) (by decide +kernel)) (x_mem (i := 393) (by decide +kernel) (by decide +kernel)) (by decide) (by decide) (by decide) (by decide) (Nat.le_of_ble_eq_true rfl) (Nat.le_of_ble_eq_true rfl) (Nat.le_of_ble_eq_true rfl) (Nat.le_of_ble_eq_true rfl) dX10_init_70 (fun H hw => ?_)
  refine sg_put (i := 0) (ci := 10) (j := 7) (N := 10) (T := TX10) (ty0 := tyX10) (ty := .array (.array .int)) (fs := [.ref (b + 1), .ref (b + 168), .int (0), .ref (b + 335), .ref (b + 342), .ref (b + 345), .int (0), .null, .null, .null]) C hw rfl wi_X10 tyX10_ok nmX10 (by decide) (by decide) rfl (Nat.le_of_ble_eq_true rfl) (fun _ => hmn) rfl (by decide +kernel) (x_mem (i := 402) (by decide +kernel) (by decide +kernel)) rfl rfl dX10_init_74 (fun H locs hw => ?_)
  refine lv_aload_n hx hb dX10_init_77 rfl (lv_at hl 0 rfl) ?_
  refine lv_iconst (v := (2 : Int32)) hx hb dX10_init_78 (by decide) ?_
  refine sg_newz (v := (2 : Int32)) (N := 2) C hw (x_mem (i := 426) (by decide +kernel) (by decide +kernel)) (by decide) (by decide) (Nat.le_of_ble_eq_true rfl) (Nat.le_of_ble_eq_true rfl) (Nat.le_of_ble_eq_true rfl) dX10_init_79 (fun H hw => ?_)
  refine lv_dup hx hb dX10_init_81 rfl ?_
  refine lv_iconst (v := (0 : Int32)) hx hb dX10_init_82 (by decide) ?_
  refine lv_iconst (v := (1 : Int32)) hx hb dX10_init_83 (by decide) ?_
  refine sg_zast (i := 349) (x := (0 : Int32)) C hw (by decide) rfl (show ¬ ((0 : Int32) < 0 ∨ 2 ≤ (0 : Int32).toNatClampNeg) by decide) (Or.inr rfl) dX10_init_84 (fun H locs hw => ?_)
  refine lv_dup hx hb dX10_init_85 rfl ?_
  refine lv_iconst (v := (1 : Int32)) hx hb dX10_init_86 (by decide) ?_
  refine lv_iconst (v := (1 : Int32)) hx hb dX10_init_87 (by decide) ?_
  refine sg_zast (i := 349) (x := (1 : Int32)) C hw (by decide) rfl (show ¬ ((1 : Int32) < 0 ∨ 2 ≤ (1 : Int32).toNatClampNeg) by decide) (Or.inr rfl) dX10_init_88 (fun H locs hw => ?_)
  refine sg_put (i := 0) (ci := 10) (j := 8) (N := 10) (T := TX10) (ty0 := tyX10) (ty := .array .boolean) (fs := [.ref (b + 1), .ref (b + 168), .int (0), .ref (b + 335), .ref (b + 342), .ref (b + 345), .int (0), .ref (b + 346), .null, .null]) C hw rfl wi_X10 tyX10_ok nmX10 (by decide) (by decide) rfl (Nat.le_of_ble_eq_true rfl) (fun _ => hmn) rfl (by decide +kernel) (x_mem (i := 403) (by decide +kernel) (by decide +kernel)) rfl rfl dX10_init_89 (fun H locs hw => ?_)
  refine lv_aload_n hx hb dX10_init_92 rfl (lv_at hl 0 rfl) ?_
  refine lv_iconst (v := (2 : Int32)) hx hb dX10_init_93 (by decide) ?_
  refine sg_newi (v := (2 : Int32)) (N := 2) C hw (x_mem (i := 117) (by decide +kernel) (by decide +kernel)) (by decide) (by decide) (Nat.le_of_ble_eq_true rfl) (Nat.le_of_ble_eq_true rfl) (Nat.le_of_ble_eq_true rfl) dX10_init_94 (fun H hw => ?_)
  refine sg_put (i := 0) (ci := 10) (j := 9) (N := 10) (T := TX10) (ty0 := tyX10) (ty := .array .int) (fs := [.ref (b + 1), .ref (b + 168), .int (0), .ref (b + 335), .ref (b + 342), .ref (b + 345), .int (0), .ref (b + 346), .ref (b + 349), .null]) C hw rfl wi_X10 tyX10_ok nmX10 (by decide) (by decide) rfl (Nat.le_of_ble_eq_true rfl) (fun _ => hmn) rfl (by decide +kernel) (x_mem (i := 404) (by decide +kernel) (by decide +kernel)) rfl rfl dX10_init_96 (fun H locs hw => ?_)
  refine ret ?_ dX10_init_99 hw
  intro i hi
  by_cases h0 : i = 0
  · subst h0
    rfl
  · by_cases h1 : i < 168
    · unfold eX10
      rw [if_neg h0, if_pos h1, sg_up_ne (by omega), sg_up_ne (by omega), sg_up_ne (by omega), sg_up_ne (by omega), sg_up_ne (by omega), sg_up_ne (by omega), sg_up_ne (by omega), sg_jn_lt (by omega), sg_up_ne (by omega), sg_up_ne (by omega), sg_up_ne (by omega), sg_up_ne (by omega), sg_jn_lt (by omega), sg_up_ne (by omega), sg_up_ne (by omega), sg_jn_lt (by omega), sg_up_ne (by omega), sg_up_ne (by omega), sg_up_ne (by omega), sg_jn_lt (by omega), sg_up_ne (by omega), sg_up_ne (by omega), sg_jn_ge (by omega)]
    · by_cases h2 : i < 335
      · unfold eX10
        rw [if_neg h0, if_neg h1, if_pos h2, sg_up_ne (by omega), sg_up_ne (by omega), sg_up_ne (by omega), sg_up_ne (by omega), sg_up_ne (by omega), sg_up_ne (by omega), sg_up_ne (by omega), sg_jn_lt (by omega), sg_up_ne (by omega), sg_up_ne (by omega), sg_up_ne (by omega), sg_up_ne (by omega), sg_jn_lt (by omega), sg_up_ne (by omega), sg_up_ne (by omega), sg_jn_lt (by omega), sg_up_ne (by omega), sg_up_ne (by omega), sg_up_ne (by omega), sg_jn_ge (by omega)]
      · have h3 : i = 335 ∨ i = 336 ∨ i = 337 ∨ i = 338 ∨ i = 339 ∨ i = 340 ∨ i = 341 ∨ i = 342 ∨ i = 343 ∨ i = 344 ∨ i = 345 ∨ i = 346 ∨ i = 347 ∨ i = 348 ∨ i = 349 ∨ i = 350 := by omega
        rcases h3 with rfl | rfl | rfl | rfl | rfl | rfl | rfl | rfl | rfl | rfl | rfl | rfl | rfl | rfl | rfl | rfl <;> rfl
