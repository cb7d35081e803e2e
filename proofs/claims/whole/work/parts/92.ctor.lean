theorem lo_X0 : sg_lO RX0 3 := ⟨x_mem (i := 180) (by decide +kernel) (by decide +kernel), x_mem (i := 66) (by decide +kernel) (by decide +kernel), x_mem (i := 67) (by decide +kernel) (by decide +kernel)⟩
theorem lo_X1 : sg_lO RX1 1 := ⟨x_mem (i := 154) (by decide +kernel) (by decide +kernel), x_mem (i := 66) (by decide +kernel) (by decide +kernel), x_mem (i := 67) (by decide +kernel) (by decide +kernel)⟩
theorem lo_X2 : sg_lO RX2 1 := ⟨x_mem (i := 211) (by decide +kernel) (by decide +kernel), x_mem (i := 66) (by decide +kernel) (by decide +kernel), x_mem (i := 67) (by decide +kernel) (by decide +kernel)⟩
theorem lo_X4 : sg_lO RX4 3 := ⟨x_mem (i := 135) (by decide +kernel) (by decide +kernel), x_mem (i := 66) (by decide +kernel) (by decide +kernel), x_mem (i := 67) (by decide +kernel) (by decide +kernel)⟩
theorem lo_X3 : sg_lO RX3 3 := ⟨x_mem (i := 96) (by decide +kernel) (by decide +kernel), x_mem (i := 66) (by decide +kernel) (by decide +kernel), x_mem (i := 67) (by decide +kernel) (by decide +kernel)⟩
theorem lo_X9 : sg_lO RX9 3 := ⟨x_mem (i := 325) (by decide +kernel) (by decide +kernel), x_mem (i := 66) (by decide +kernel) (by decide +kernel), x_mem (i := 67) (by decide +kernel) (by decide +kernel)⟩
theorem lo_X5 : sg_lO RX5 3 := ⟨x_mem (i := 377) (by decide +kernel) (by decide +kernel), x_mem (i := 66) (by decide +kernel) (by decide +kernel), x_mem (i := 67) (by decide +kernel) (by decide +kernel)⟩
theorem lo_X7 : sg_lO RX7 3 := ⟨x_mem (i := 123) (by decide +kernel) (by decide +kernel), x_mem (i := 66) (by decide +kernel) (by decide +kernel), x_mem (i := 67) (by decide +kernel) (by decide +kernel)⟩
theorem lo_X6 : sg_lO RX6 3 := ⟨x_mem (i := 319) (by decide +kernel) (by decide +kernel), x_mem (i := 66) (by decide +kernel) (by decide +kernel), x_mem (i := 67) (by decide +kernel) (by decide +kernel)⟩
theorem li_X6_11 : sg_lN RX6 11 yX9_init "DayFines" cX9_init 1 := ⟨List.mem_of_getElem? (i := 322) (by decide +kernel), x_mem (i := 323) (by decide +kernel) (by decide +kernel), x_mem (i := 50) (by decide +kernel) (by decide +kernel), x_mem (i := 324) (by decide +kernel) (by decide +kernel), rfl, by decide +kernel, by decide +kernel, by decide +kernel⟩
theorem li_X6_20 : sg_lN RX6 20 yX3_init "DayFines" cX3_init 1 := ⟨List.mem_of_getElem? (i := 344) (by decide +kernel), x_mem (i := 94) (by decide +kernel) (by decide +kernel), x_mem (i := 43) (by decide +kernel) (by decide +kernel), x_mem (i := 95) (by decide +kernel) (by decide +kernel), rfl, by decide +kernel, by decide +kernel, by decide +kernel⟩
def eX0 (g : xG) (b : Nat) : Nat → va_E := fun i => match i with
  | _ => .inr (0, [.int (0), .int (0), .int (0), .int (1), .int (-1)])
set_option maxRecDepth 100000 in
set_option maxHeartbeats 4000000 in
theorem kX0 (l : Launch) (g : xG) : sg_c l g yX0_init cX0_init 1 1 12 0 0 0 [.int 0, .int 0, .int 0, .int 0, .int 0] 1 (eX0 g) := by
  refine sg_st RX0 (by decide) rfl rfl (by decide) ?_
  intro b p e s m args below meth c Q ls C hmn hw ret hl
  obtain ⟨hx, hb, -⟩ := id C
  refine lv_aload_n hx hb dX0_init_0 rfl (lv_at hl 0 rfl) ?_
  refine sg_obj C hl.1 lo_X0 (Nat.le_of_ble_eq_true rfl) (Nat.le_of_ble_eq_true rfl) dX0_init_1 ?_
  refine lv_aload_n hx hb dX0_init_4 rfl (lv_at hl 0 rfl) ?_
  refine lv_iconst (v := (0 : Int32)) hx hb dX0_init_5 (by decide) ?_
  refine sg_put (i := 0) (ci := 0) (j := 0) (N := 5) (T := TX0) (ty0 := tyX0) (ty := .int) (fs := [.int 0, .int 0, .int 0, .int 0, .int 0]) C hw rfl wi_X0 tyX0_ok nmX0 (by decide) (by decide) rfl (Nat.le_of_ble_eq_true rfl) (fun _ => hmn) rfl (by decide +kernel) (x_mem (i := 181) (by decide +kernel) (by decide +kernel)) rfl rfl dX0_init_6 (fun H locs hw => ?_)
  refine lv_aload_n hx hb dX0_init_9 rfl (lv_at hl 0 rfl) ?_
  refine lv_iconst (v := (0 : Int32)) hx hb dX0_init_10 (by decide) ?_
  refine sg_put (i := 0) (ci := 0) (j := 1) (N := 5) (T := TX0) (ty0 := tyX0) (ty := .int) (fs := [.int (0), .int 0, .int 0, .int 0, .int 0]) C hw rfl wi_X0 tyX0_ok nmX0 (by decide) (by decide) rfl (Nat.le_of_ble_eq_true rfl) (fun _ => hmn) rfl (by decide +kernel) (x_mem (i := 184) (by decide +kernel) (by decide +kernel)) rfl rfl dX0_init_11 (fun H locs hw => ?_)
  refine lv_aload_n hx hb dX0_init_14 rfl (lv_at hl 0 rfl) ?_
  refine lv_iconst (v := (0 : Int32)) hx hb dX0_init_15 (by decide) ?_
  refine sg_put (i := 0) (ci := 0) (j := 2) (N := 5) (T := TX0) (ty0 := tyX0) (ty := .int) (fs := [.int (0), .int (0), .int 0, .int 0, .int 0]) C hw rfl wi_X0 tyX0_ok nmX0 (by decide) (by decide) rfl (Nat.le_of_ble_eq_true rfl) (fun _ => hmn) rfl (by decide +kernel) (x_mem (i := 187) (by decide +kernel) (by decide +kernel)) rfl rfl dX0_init_16 (fun H locs hw => ?_)
  refine lv_aload_n hx hb dX0_init_19 rfl (lv_at hl 0 rfl) ?_
  refine lv_iconst (v := (1 : Int32)) hx hb dX0_init_20 (by decide) ?_
  refine sg_put (i := 0) (ci := 0) (j := 3) (N := 5) (T := TX0) (ty0 := tyX0) (ty := .int) (fs := [.int (0), .int (0), .int (0), .int 0, .int 0]) C hw rfl wi_X0 tyX0_ok nmX0 (by decide) (by decide) rfl (Nat.le_of_ble_eq_true rfl) (fun _ => hmn) rfl (by decide +kernel) (x_mem (i := 190) (by decide +kernel) (by decide +kernel)) rfl rfl dX0_init_21 (fun H locs hw => ?_)
  refine lv_aload_n hx hb dX0_init_24 rfl (lv_at hl 0 rfl) ?_
  refine lv_iconst (v := (-1 : Int32)) hx hb dX0_init_25 (by decide) ?_
  refine sg_put (i := 0) (ci := 0) (j := 4) (N := 5) (T := TX0) (ty0 := tyX0) (ty := .int) (fs := [.int (0), .int (0), .int (0), .int (1), .int 0]) C hw rfl wi_X0 tyX0_ok nmX0 (by decide) (by decide) rfl (Nat.le_of_ble_eq_true rfl) (fun _ => hmn) rfl (by decide +kernel) (x_mem (i := 193) (by decide +kernel) (by decide +kernel)) rfl rfl dX0_init_26 (fun H locs hw => ?_)
  refine ret ?_ dX0_init_29 hw
  exact fun i hi => match i, hi with | 0, _ => rfl | i + 1, h => absurd h (by omega)
def eX1 (g : xG) (b : Nat) : Nat → va_E := fun i => match i with
  | _ => .inr (1, [.int (0), .int (0), .int (0), .int (0), .int (0), .int (0)])
set_option maxRecDepth 100000 in
set_option maxHeartbeats 4000000 in
theorem kX1 (l : Launch) (g : xG) : sg_c l g yX1_init cX1_init 1 1 12 0 0 1 [.int 0, .int 0, .int 0, .int 0, .int 0, .int 0] 1 (eX1 g) := by
  refine sg_st RX1 (by decide) rfl rfl (by decide) ?_
  intro b p e s m args below meth c Q ls C hmn hw ret hl
  obtain ⟨hx, hb, -⟩ := id C
  refine lv_aload_n hx hb dX1_init_0 rfl (lv_at hl 0 rfl) ?_
  refine sg_obj C hl.1 lo_X1 (Nat.le_of_ble_eq_true rfl) (Nat.le_of_ble_eq_true rfl) dX1_init_1 ?_
  refine lv_aload_n hx hb dX1_init_4 rfl (lv_at hl 0 rfl) ?_
  refine lv_iconst (v := (0 : Int32)) hx hb dX1_init_5 (by decide) ?_
  refine sg_put (i := 0) (ci := 1) (j := 0) (N := 6) (T := TX1) (ty0 := tyX1) (ty := .int) (fs := [.int 0, .int 0, .int 0, .int 0, .int 0, .int 0]) C hw rfl wi_X1 tyX1_ok nmX1 (by decide) (by decide) rfl (Nat.le_of_ble_eq_true rfl) (fun _ => hmn) rfl (by decide +kernel) (x_mem (i := 155) (by decide +kernel) (by decide +kernel)) rfl rfl dX1_init_6 (fun H locs hw => ?_)
  refine lv_aload_n hx hb dX1_init_9 rfl (lv_at hl 0 rfl) ?_
  refine lv_iconst (v := (0 : Int32)) hx hb dX1_init_10 (by decide) ?_
  refine sg_put (i := 0) (ci := 1) (j := 1) (N := 6) (T := TX1) (ty0 := tyX1) (ty := .int) (fs := [.int (0), .int 0, .int 0, .int 0, .int 0, .int 0]) C hw rfl wi_X1 tyX1_ok nmX1 (by decide) (by decide) rfl (Nat.le_of_ble_eq_true rfl) (fun _ => hmn) rfl (by decide +kernel) (x_mem (i := 156) (by decide +kernel) (by decide +kernel)) rfl rfl dX1_init_11 (fun H locs hw => ?_)
  refine lv_aload_n hx hb dX1_init_14 rfl (lv_at hl 0 rfl) ?_
  refine lv_iconst (v := (0 : Int32)) hx hb dX1_init_15 (by decide) ?_
  refine sg_put (i := 0) (ci := 1) (j := 2) (N := 6) (T := TX1) (ty0 := tyX1) (ty := .int) (fs := [.int (0), .int (0), .int 0, .int 0, .int 0, .int 0]) C hw rfl wi_X1 tyX1_ok nmX1 (by decide) (by decide) rfl (Nat.le_of_ble_eq_true rfl) (fun _ => hmn) rfl (by decide +kernel) (x_mem (i := 157) (by decide +kernel) (by decide +kernel)) rfl rfl dX1_init_16 (fun H locs hw => ?_)
  refine lv_aload_n hx hb dX1_init_19 rfl (lv_at hl 0 rfl) ?_
  refine lv_iconst (v := (0 : Int32)) hx hb dX1_init_20 (by decide) ?_
  refine sg_put (i := 0) (ci := 1) (j := 3) (N := 6) (T := TX1) (ty0 := tyX1) (ty := .int) (fs := [.int (0), .int (0), .int (0), .int 0, .int 0, .int 0]) C hw rfl wi_X1 tyX1_ok nmX1 (by decide) (by decide) rfl (Nat.le_of_ble_eq_true rfl) (fun _ => hmn) rfl (by decide +kernel) (x_mem (i := 158) (by decide +kernel) (by decide +kernel)) rfl rfl dX1_init_21 (fun H locs hw => ?_)
  refine lv_aload_n hx hb dX1_init_24 rfl (lv_at hl 0 rfl) ?_
  refine lv_iconst (v := (0 : Int32)) hx hb dX1_init_25 (by decide) ?_
  refine sg_put (i := 0) (ci := 1) (j := 4) (N := 6) (T := TX1) (ty0 := tyX1) (ty := .int) (fs := [.int (0), .int (0), .int (0), .int (0), .int 0, .int 0]) C hw rfl wi_X1 tyX1_ok nmX1 (by decide) (by decide) rfl (Nat.le_of_ble_eq_true rfl) (fun _ => hmn) rfl (by decide +kernel) (x_mem (i := 160) (by decide +kernel) (by decide +kernel)) rfl rfl dX1_init_26 (fun H locs hw => ?_)
  refine lv_aload_n hx hb dX1_init_29 rfl (lv_at hl 0 rfl) ?_
  refine lv_iconst (v := (0 : Int32)) hx hb dX1_init_30 (by decide) ?_
  refine sg_put (i := 0) (ci := 1) (j := 5) (N := 6) (T := TX1) (ty0 := tyX1) (ty := .int) (fs := [.int (0), .int (0), .int (0), .int (0), .int (0), .int 0]) C hw rfl wi_X1 tyX1_ok nmX1 (by decide) (by decide) rfl (Nat.le_of_ble_eq_true rfl) (fun _ => hmn) rfl (by decide +kernel) (x_mem (i := 161) (by decide +kernel) (by decide +kernel)) rfl rfl dX1_init_31 (fun H locs hw => ?_)
  refine ret ?_ dX1_init_34 hw
  exact fun i hi => match i, hi with | 0, _ => rfl | i + 1, h => absurd h (by omega)
def eX2 (g : xG) (b : Nat) : Nat → va_E := fun i => match i with
  | _ => .inr (2, [.int (0), .int (0), .int (0), .int (0), .int (0), .int (0), .int (0), .int (0), .int (0), .int (0)])
set_option maxRecDepth 100000 in
set_option maxHeartbeats 4000000 in
theorem kX2 (l : Launch) (g : xG) : sg_c l g yX2_init cX2_init 1 1 12 0 0 2 [.int 0, .int 0, .int 0, .int 0, .int 0, .int 0, .int 0, .int 0, .int 0, .int 0] 1 (eX2 g) := by
  refine sg_st RX2 (by decide) rfl rfl (by decide) ?_
  intro b p e s m args below meth c Q ls C hmn hw ret hl
  obtain ⟨hx, hb, -⟩ := id C
  refine lv_aload_n hx hb dX2_init_0 rfl (lv_at hl 0 rfl) ?_
  refine sg_obj C hl.1 lo_X2 (Nat.le_of_ble_eq_true rfl) (Nat.le_of_ble_eq_true rfl) dX2_init_1 ?_
  refine lv_aload_n hx hb dX2_init_4 rfl (lv_at hl 0 rfl) ?_
  refine lv_iconst (v := (0 : Int32)) hx hb dX2_init_5 (by decide) ?_
  refine sg_put (i := 0) (ci := 2) (j := 0) (N := 10) (T := TX2) (ty0 := tyX2) (ty := .int) (fs := [.int 0, .int 0, .int 0, .int 0, .int 0, .int 0, .int 0, .int 0, .int 0, .int 0]) C hw rfl wi_X2 tyX2_ok nmX2 (by decide) (by decide) rfl (Nat.le_of_ble_eq_true rfl) (fun _ => hmn) rfl (by decide +kernel) (x_mem (i := 212) (by decide +kernel) (by decide +kernel)) rfl rfl dX2_init_6 (fun H locs hw => ?_)
  refine lv_aload_n hx hb dX2_init_9 rfl (lv_at hl 0 rfl) ?_
  refine lv_iconst (v := (0 : Int32)) hx hb dX2_init_10 (by decide) ?_
  refine sg_put (i := 0) (ci := 2) (j := 1) (N := 10) (T := TX2) (ty0 := tyX2) (ty := .int) (fs := [.int (0), .int 0, .int 0, .int 0, .int 0, .int 0, .int 0, .int 0, .int 0, .int 0]) C hw rfl wi_X2 tyX2_ok nmX2 (by decide) (by decide) rfl (Nat.le_of_ble_eq_true rfl) (fun _ => hmn) rfl (by decide +kernel) (x_mem (i := 216) (by decide +kernel) (by decide +kernel)) rfl rfl dX2_init_11 (fun H locs hw => ?_)
  refine lv_aload_n hx hb dX2_init_14 rfl (lv_at hl 0 rfl) ?_
  refine lv_iconst (v := (0 : Int32)) hx hb dX2_init_15 (by decide) ?_
  refine sg_put (i := 0) (ci := 2) (j := 2) (N := 10) (T := TX2) (ty0 := tyX2) (ty := .int) (fs := [.int (0), .int (0), .int 0, .int 0, .int 0, .int 0, .int 0, .int 0, .int 0, .int 0]) C hw rfl wi_X2 tyX2_ok nmX2 (by decide) (by decide) rfl (Nat.le_of_ble_eq_true rfl) (fun _ => hmn) rfl (by decide +kernel) (x_mem (i := 220) (by decide +kernel) (by decide +kernel)) rfl rfl dX2_init_16 (fun H locs hw => ?_)
  refine lv_aload_n hx hb dX2_init_19 rfl (lv_at hl 0 rfl) ?_
  refine lv_iconst (v := (0 : Int32)) hx hb dX2_init_20 (by decide) ?_
  refine sg_put (i := 0) (ci := 2) (j := 3) (N := 10) (T := TX2) (ty0 := tyX2) (ty := .int) (fs := [.int (0), .int (0), .int (0), .int 0, .int 0, .int 0, .int 0, .int 0, .int 0, .int 0]) C hw rfl wi_X2 tyX2_ok nmX2 (by decide) (by decide) rfl (Nat.le_of_ble_eq_true rfl) (fun _ => hmn) rfl (by decide +kernel) (x_mem (i := 222) (by decide +kernel) (by decide +kernel)) rfl rfl dX2_init_21 (fun H locs hw => ?_)
  refine lv_aload_n hx hb dX2_init_24 rfl (lv_at hl 0 rfl) ?_
  refine lv_iconst (v := (0 : Int32)) hx hb dX2_init_25 (by decide) ?_
  refine sg_put (i := 0) (ci := 2) (j := 4) (N := 10) (T := TX2) (ty0 := tyX2) (ty := .int) (fs := [.int (0), .int (0), .int (0), .int (0), .int 0, .int 0, .int 0, .int 0, .int 0, .int 0]) C hw rfl wi_X2 tyX2_ok nmX2 (by decide) (by decide) rfl (Nat.le_of_ble_eq_true rfl) (fun _ => hmn) rfl (by decide +kernel) (x_mem (i := 224) (by decide +kernel) (by decide +kernel)) rfl rfl dX2_init_26 (fun H locs hw => ?_)
  refine lv_aload_n hx hb dX2_init_29 rfl (lv_at hl 0 rfl) ?_
  refine lv_iconst (v := (0 : Int32)) hx hb dX2_init_30 (by decide) ?_
  refine sg_put (i := 0) (ci := 2) (j := 5) (N := 10) (T := TX2) (ty0 := tyX2) (ty := .int) (fs := [.int (0), .int (0), .int (0), .int (0), .int (0), .int 0, .int 0, .int 0, .int 0, .int 0]) C hw rfl wi_X2 tyX2_ok nmX2 (by decide) (by decide) rfl (Nat.le_of_ble_eq_true rfl) (fun _ => hmn) rfl (by decide +kernel) (x_mem (i := 226) (by decide +kernel) (by decide +kernel)) rfl rfl dX2_init_31 (fun H locs hw => ?_)
  refine lv_aload_n hx hb dX2_init_34 rfl (lv_at hl 0 rfl) ?_
  refine lv_iconst (v := (0 : Int32)) hx hb dX2_init_35 (by decide) ?_
  refine sg_put (i := 0) (ci := 2) (j := 6) (N := 10) (T := TX2) (ty0 := tyX2) (ty := .int) (fs := [.int (0), .int (0), .int (0), .int (0), .int (0), .int (0), .int 0, .int 0, .int 0, .int 0]) C hw rfl wi_X2 tyX2_ok nmX2 (by decide) (by decide) rfl (Nat.le_of_ble_eq_true rfl) (fun _ => hmn) rfl (by decide +kernel) (x_mem (i := 229) (by decide +kernel) (by decide +kernel)) rfl rfl dX2_init_36 (fun H locs hw => ?_)
  refine lv_aload_n hx hb dX2_init_39 rfl (lv_at hl 0 rfl) ?_
  refine lv_iconst (v := (0 : Int32)) hx hb dX2_init_40 (by decide) ?_
  refine sg_put (i := 0) (ci := 2) (j := 7) (N := 10) (T := TX2) (ty0 := tyX2) (ty := .int) (fs := [.int (0), .int (0), .int (0), .int (0), .int (0), .int (0), .int (0), .int 0, .int 0, .int 0]) C hw rfl wi_X2 tyX2_ok nmX2 (by decide) (by decide) rfl (Nat.le_of_ble_eq_true rfl) (fun _ => hmn) rfl (by decide +kernel) (x_mem (i := 231) (by decide +kernel) (by decide +kernel)) rfl rfl dX2_init_41 (fun H locs hw => ?_)
  refine lv_aload_n hx hb dX2_init_44 rfl (lv_at hl 0 rfl) ?_
  refine lv_iconst (v := (0 : Int32)) hx hb dX2_init_45 (by decide) ?_
  refine sg_put (i := 0) (ci := 2) (j := 8) (N := 10) (T := TX2) (ty0 := tyX2) (ty := .boolean) (fs := [.int (0), .int (0), .int (0), .int (0), .int (0), .int (0), .int (0), .int (0), .int 0, .int 0]) C hw rfl wi_X2 tyX2_ok nmX2 (by decide) (by decide) rfl (Nat.le_of_ble_eq_true rfl) (fun _ => hmn) rfl (by decide +kernel) (x_mem (i := 233) (by decide +kernel) (by decide +kernel)) rfl rfl dX2_init_46 (fun H locs hw => ?_)
  refine lv_aload_n hx hb dX2_init_49 rfl (lv_at hl 0 rfl) ?_
  refine lv_iconst (v := (0 : Int32)) hx hb dX2_init_50 (by decide) ?_
  refine sg_put (i := 0) (ci := 2) (j := 9) (N := 10) (T := TX2) (ty0 := tyX2) (ty := .boolean) (fs := [.int (0), .int (0), .int (0), .int (0), .int (0), .int (0), .int (0), .int (0), .int (0), .int 0]) C hw rfl wi_X2 tyX2_ok nmX2 (by decide) (by decide) rfl (Nat.le_of_ble_eq_true rfl) (fun _ => hmn) rfl (by decide +kernel) (x_mem (i := 235) (by decide +kernel) (by decide +kernel)) rfl rfl dX2_init_51 (fun H locs hw => ?_)
  refine ret ?_ dX2_init_54 hw
  exact fun i hi => match i, hi with | 0, _ => rfl | i + 1, h => absurd h (by omega)
def eX4 (g : xG) (b : Nat) : Nat → va_E := fun i => match i with
  | _ => .inr (4, [.int (0), .int (-1), .int (0)])
set_option maxRecDepth 100000 in
set_option maxHeartbeats 4000000 in
theorem kX4 (l : Launch) (g : xG) : sg_c l g yX4_init cX4_init 1 1 12 0 0 4 [.int 0, .int 0, .int 0] 1 (eX4 g) := by
  refine sg_st RX4 (by decide) rfl rfl (by decide) ?_
  intro b p e s m args below meth c Q ls C hmn hw ret hl
  obtain ⟨hx, hb, -⟩ := id C
  refine lv_aload_n hx hb dX4_init_0 rfl (lv_at hl 0 rfl) ?_
  refine sg_obj C hl.1 lo_X4 (Nat.le_of_ble_eq_true rfl) (Nat.le_of_ble_eq_true rfl) dX4_init_1 ?_
  refine lv_aload_n hx hb dX4_init_4 rfl (lv_at hl 0 rfl) ?_
  refine lv_iconst (v := (0 : Int32)) hx hb dX4_init_5 (by decide) ?_
  refine sg_put (i := 0) (ci := 4) (j := 0) (N := 3) (T := TX4) (ty0 := tyX4) (ty := .int) (fs := [.int 0, .int 0, .int 0]) C hw rfl wi_X4 tyX4_ok nmX4 (by decide) (by decide) rfl (Nat.le_of_ble_eq_true rfl) (fun _ => hmn) rfl (by decide +kernel) (x_mem (i := 136) (by decide +kernel) (by decide +kernel)) rfl rfl dX4_init_6 (fun H locs hw => ?_)
  refine lv_aload_n hx hb dX4_init_9 rfl (lv_at hl 0 rfl) ?_
  refine lv_iconst (v := (-1 : Int32)) hx hb dX4_init_10 (by decide) ?_
  refine sg_put (i := 0) (ci := 4) (j := 1) (N := 3) (T := TX4) (ty0 := tyX4) (ty := .int) (fs := [.int (0), .int 0, .int 0]) C hw rfl wi_X4 tyX4_ok nmX4 (by decide) (by decide) rfl (Nat.le_of_ble_eq_true rfl) (fun _ => hmn) rfl (by decide +kernel) (x_mem (i := 137) (by decide +kernel) (by decide +kernel)) rfl rfl dX4_init_11 (fun H locs hw => ?_)
  refine lv_aload_n hx hb dX4_init_14 rfl (lv_at hl 0 rfl) ?_
  refine lv_iconst (v := (0 : Int32)) hx hb dX4_init_15 (by decide) ?_
  refine sg_put (i := 0) (ci := 4) (j := 2) (N := 3) (T := TX4) (ty0 := tyX4) (ty := .int) (fs := [.int (0), .int (-1), .int 0]) C hw rfl wi_X4 tyX4_ok nmX4 (by decide) (by decide) rfl (Nat.le_of_ble_eq_true rfl) (fun _ => hmn) rfl (by decide +kernel) (x_mem (i := 140) (by decide +kernel) (by decide +kernel)) rfl rfl dX4_init_16 (fun H locs hw => ?_)
  refine ret ?_ dX4_init_19 hw
  exact fun i hi => match i, hi with | 0, _ => rfl | i + 1, h => absurd h (by omega)
def eX3 (g : xG) (b : Nat) : Nat → va_E := fun i => match i with
  | 0 => .inr (3, [.ref (b + 1), .ref (b + 2), .int (0), .int (0)])
  | 1 => .inl (g.2.1 0, 120, .inl (fun _ => 0))
  | _ => .inl (g.2.1 0, 3, .inl (fun _ => 0))
set_option maxRecDepth 100000 in
set_option maxHeartbeats 4000000 in
theorem kX3 (l : Launch) (g : xG) : sg_c l g yX3_init cX3_init 1 1 12 2 123 3 [.null, .null, .int 0, .int 0] 3 (eX3 g) := by
  refine sg_st RX3 (by decide) rfl rfl (by decide) ?_
  intro b p e s m args below meth c Q ls C hmn hw ret hl
  obtain ⟨hx, hb, -⟩ := id C
  refine lv_aload_n hx hb dX3_init_0 rfl (lv_at hl 0 rfl) ?_
  refine sg_obj C hl.1 lo_X3 (Nat.le_of_ble_eq_true rfl) (Nat.le_of_ble_eq_true rfl) dX3_init_1 ?_
  refine lv_aload_n hx hb dX3_init_4 rfl (lv_at hl 0 rfl) ?_
  refine lv_bipush (v := (120 : Int32)) hx hb dX3_init_5 (by decide) ?_
  refine sg_newi (v := (120 : Int32)) (N := 120) C hw (x_mem (i := 117) (by decide +kernel) (by decide +kernel)) (by decide) (by decide) (Nat.le_of_ble_eq_true rfl) (Nat.le_of_ble_eq_true rfl) (Nat.le_of_ble_eq_true rfl) dX3_init_7 (fun H hw => ?_)
  refine sg_put (i := 0) (ci := 3) (j := 0) (N := 4) (T := TX3) (ty0 := tyX3) (ty := .array .int) (fs := [.null, .null, .int 0, .int 0]) C hw rfl wi_X3 tyX3_ok nmX3 (by decide) (by decide) rfl (Nat.le_of_ble_eq_true rfl) (fun _ => hmn) rfl (by decide +kernel) (x_mem (i := 97) (by decide +kernel) (by decide +kernel)) rfl rfl dX3_init_9 (fun H locs hw => ?_)
  refine lv_aload_n hx hb dX3_init_12 rfl (lv_at hl 0 rfl) ?_
  refine lv_iconst (v := (3 : Int32)) hx hb dX3_init_13 (by decide) ?_
  refine sg_newi (v := (3 : Int32)) (N := 3) C hw (x_mem (i := 117) (by decide +kernel) (by decide +kernel)) (by decide) (by decide) (Nat.le_of_ble_eq_true rfl) (Nat.le_of_ble_eq_true rfl) (Nat.le_of_ble_eq_true rfl) dX3_init_14 (fun H hw => ?_)
  refine sg_put (i := 0) (ci := 3) (j := 1) (N := 4) (T := TX3) (ty0 := tyX3) (ty := .array .int) (fs := [.ref (b + 1), .null, .int 0, .int 0]) C hw rfl wi_X3 tyX3_ok nmX3 (by decide) (by decide) rfl (Nat.le_of_ble_eq_true rfl) (fun _ => hmn) rfl (by decide +kernel) (x_mem (i := 99) (by decide +kernel) (by decide +kernel)) rfl rfl dX3_init_16 (fun H locs hw => ?_)
  refine lv_aload_n hx hb dX3_init_19 rfl (lv_at hl 0 rfl) ?_
  refine lv_iconst (v := (0 : Int32)) hx hb dX3_init_20 (by decide) ?_
  refine sg_put (i := 0) (ci := 3) (j := 2) (N := 4) (T := TX3) (ty0 := tyX3) (ty := .int) (fs := [.ref (b + 1), .ref (b + 2), .int 0, .int 0]) C hw rfl wi_X3 tyX3_ok nmX3 (by decide) (by decide) rfl (Nat.le_of_ble_eq_true rfl) (fun _ => hmn) rfl (by decide +kernel) (x_mem (i := 102) (by decide +kernel) (by decide +kernel)) rfl rfl dX3_init_21 (fun H locs hw => ?_)
  refine lv_aload_n hx hb dX3_init_24 rfl (lv_at hl 0 rfl) ?_
  refine lv_iconst (v := (0 : Int32)) hx hb dX3_init_25 (by decide) ?_
  refine sg_put (i := 0) (ci := 3) (j := 3) (N := 4) (T := TX3) (ty0 := tyX3) (ty := .int) (fs := [.ref (b + 1), .ref (b + 2), .int (0), .int 0]) C hw rfl wi_X3 tyX3_ok nmX3 (by decide) (by decide) rfl (Nat.le_of_ble_eq_true rfl) (fun _ => hmn) rfl (by decide +kernel) (x_mem (i := 104) (by decide +kernel) (by decide +kernel)) rfl rfl dX3_init_26 (fun H locs hw => ?_)
  refine ret ?_ dX3_init_29 hw
  exact fun i hi => match i, hi with | 0, _ => rfl | 1, _ => rfl | 2, _ => rfl | i + 3, h => absurd h (by omega)
def eX9 (g : xG) (b : Nat) : Nat → va_E := fun i => match i with
  | 0 => .inr (9, [.ref (b + 1), .int (0), .int (0), .int (0)])
  | _ => .inl (g.2.1 0, 120, .inl (fun _ => 0))
set_option maxRecDepth 100000 in
set_option maxHeartbeats 4000000 in
theorem kX9 (l : Launch) (g : xG) : sg_c l g yX9_init cX9_init 1 1 12 1 120 9 [.null, .int 0, .int 0, .int 0] 2 (eX9 g) := by
  refine sg_st RX9 (by decide) rfl rfl (by decide) ?_
  intro b p e s m args below meth c Q ls C hmn hw ret hl
  obtain ⟨hx, hb, -⟩ := id C
  refine lv_aload_n hx hb dX9_init_0 rfl (lv_at hl 0 rfl) ?_
  refine sg_obj C hl.1 lo_X9 (Nat.le_of_ble_eq_true rfl) (Nat.le_of_ble_eq_true rfl) dX9_init_1 ?_
  refine lv_aload_n hx hb dX9_init_4 rfl (lv_at hl 0 rfl) ?_
  refine lv_bipush (v := (120 : Int32)) hx hb dX9_init_5 (by decide) ?_
  refine sg_newi (v := (120 : Int32)) (N := 120) C hw (x_mem (i := 117) (by decide +kernel) (by decide +kernel)) (by decide) (by decide) (Nat.le_of_ble_eq_true rfl) (Nat.le_of_ble_eq_true rfl) (Nat.le_of_ble_eq_true rfl) dX9_init_7 (fun H hw => ?_)
  refine sg_put (i := 0) (ci := 9) (j := 0) (N := 4) (T := TX9) (ty0 := tyX9) (ty := .array .int) (fs := [.null, .int 0, .int 0, .int 0]) C hw rfl wi_X9 tyX9_ok nmX9 (by decide) (by decide) rfl (Nat.le_of_ble_eq_true rfl) (fun _ => hmn) rfl (by decide +kernel) (x_mem (i := 326) (by decide +kernel) (by decide +kernel)) rfl rfl dX9_init_9 (fun H locs hw => ?_)
  refine lv_aload_n hx hb dX9_init_12 rfl (lv_at hl 0 rfl) ?_
  refine lv_iconst (v := (0 : Int32)) hx hb dX9_init_13 (by decide) ?_
  refine sg_put (i := 0) (ci := 9) (j := 1) (N := 4) (T := TX9) (ty0 := tyX9) (ty := .int) (fs := [.ref (b + 1), .int 0, .int 0, .int 0]) C hw rfl wi_X9 tyX9_ok nmX9 (by decide) (by decide) rfl (Nat.le_of_ble_eq_true rfl) (fun _ => hmn) rfl (by decide +kernel) (x_mem (i := 327) (by decide +kernel) (by decide +kernel)) rfl rfl dX9_init_14 (fun H locs hw => ?_)
  refine lv_aload_n hx hb dX9_init_17 rfl (lv_at hl 0 rfl) ?_
  refine lv_iconst (v := (0 : Int32)) hx hb dX9_init_18 (by decide) ?_
  refine sg_put (i := 0) (ci := 9) (j := 2) (N := 4) (T := TX9) (ty0 := tyX9) (ty := .int) (fs := [.ref (b + 1), .int (0), .int 0, .int 0]) C hw rfl wi_X9 tyX9_ok nmX9 (by decide) (by decide) rfl (Nat.le_of_ble_eq_true rfl) (fun _ => hmn) rfl (by decide +kernel) (x_mem (i := 330) (by decide +kernel) (by decide +kernel)) rfl rfl dX9_init_19 (fun H locs hw => ?_)
  refine lv_aload_n hx hb dX9_init_22 rfl (lv_at hl 0 rfl) ?_
  refine lv_iconst (v := (0 : Int32)) hx hb dX9_init_23 (by decide) ?_
  refine sg_put (i := 0) (ci := 9) (j := 3) (N := 4) (T := TX9) (ty0 := tyX9) (ty := .int) (fs := [.ref (b + 1), .int (0), .int (0), .int 0]) C hw rfl wi_X9 tyX9_ok nmX9 (by decide) (by decide) rfl (Nat.le_of_ble_eq_true rfl) (fun _ => hmn) rfl (by decide +kernel) (x_mem (i := 332) (by decide +kernel) (by decide +kernel)) rfl rfl dX9_init_24 (fun H locs hw => ?_)
  refine ret ?_ dX9_init_27 hw
  exact fun i hi => match i, hi with | 0, _ => rfl | 1, _ => rfl | i + 2, h => absurd h (by omega)
def eX5 (g : xG) (b : Nat) : Nat → va_E := fun i => match i with
  | 0 => .inr (5, [.ref (b + 1), .ref (b + 2), .int (0), .int (0)])
  | 1 => .inl (g.2.1 0, 24, .inl (fun _ => 0))
  | _ => .inl (g.2.1 0, 24, .inl (fun _ => 0))
set_option maxRecDepth 100000 in
set_option maxHeartbeats 4000000 in
theorem kX5 (l : Launch) (g : xG) : sg_c l g yX5_init cX5_init 1 1 12 2 48 5 [.null, .null, .int 0, .int 0] 3 (eX5 g) := by
  refine sg_st RX5 (by decide) rfl rfl (by decide) ?_
  intro b p e s m args below meth c Q ls C hmn hw ret hl
  obtain ⟨hx, hb, -⟩ := id C
  refine lv_aload_n hx hb dX5_init_0 rfl (lv_at hl 0 rfl) ?_
  refine sg_obj C hl.1 lo_X5 (Nat.le_of_ble_eq_true rfl) (Nat.le_of_ble_eq_true rfl) dX5_init_1 ?_
  refine lv_aload_n hx hb dX5_init_4 rfl (lv_at hl 0 rfl) ?_
  refine lv_bipush (v := (24 : Int32)) hx hb dX5_init_5 (by decide) ?_
  refine sg_newi (v := (24 : Int32)) (N := 24) C hw (x_mem (i := 117) (by decide +kernel) (by decide +kernel)) (by decide) (by decide) (Nat.le_of_ble_eq_true rfl) (Nat.le_of_ble_eq_true rfl) (Nat.le_of_ble_eq_true rfl) dX5_init_7 (fun H hw => ?_)
  refine sg_put (i := 0) (ci := 5) (j := 0) (N := 4) (T := TX5) (ty0 := tyX5) (ty := .array .int) (fs := [.null, .null, .int 0, .int 0]) C hw rfl wi_X5 tyX5_ok nmX5 (by decide) (by decide) rfl (Nat.le_of_ble_eq_true rfl) (fun _ => hmn) rfl (by decide +kernel) (x_mem (i := 378) (by decide +kernel) (by decide +kernel)) rfl rfl dX5_init_9 (fun H locs hw => ?_)
  refine lv_aload_n hx hb dX5_init_12 rfl (lv_at hl 0 rfl) ?_
  refine lv_bipush (v := (24 : Int32)) hx hb dX5_init_13 (by decide) ?_
  refine sg_newi (v := (24 : Int32)) (N := 24) C hw (x_mem (i := 117) (by decide +kernel) (by decide +kernel)) (by decide) (by decide) (Nat.le_of_ble_eq_true rfl) (Nat.le_of_ble_eq_true rfl) (Nat.le_of_ble_eq_true rfl) dX5_init_15 (fun H hw => ?_)
  refine sg_put (i := 0) (ci := 5) (j := 1) (N := 4) (T := TX5) (ty0 := tyX5) (ty := .array .int) (fs := [.ref (b + 1), .null, .int 0, .int 0]) C hw rfl wi_X5 tyX5_ok nmX5 (by decide) (by decide) rfl (Nat.le_of_ble_eq_true rfl) (fun _ => hmn) rfl (by decide +kernel) (x_mem (i := 379) (by decide +kernel) (by decide +kernel)) rfl rfl dX5_init_17 (fun H locs hw => ?_)
  refine lv_aload_n hx hb dX5_init_20 rfl (lv_at hl 0 rfl) ?_
  refine lv_iconst (v := (0 : Int32)) hx hb dX5_init_21 (by decide) ?_
  refine sg_put (i := 0) (ci := 5) (j := 2) (N := 4) (T := TX5) (ty0 := tyX5) (ty := .int) (fs := [.ref (b + 1), .ref (b + 2), .int 0, .int 0]) C hw rfl wi_X5 tyX5_ok nmX5 (by decide) (by decide) rfl (Nat.le_of_ble_eq_true rfl) (fun _ => hmn) rfl (by decide +kernel) (x_mem (i := 381) (by decide +kernel) (by decide +kernel)) rfl rfl dX5_init_22 (fun H locs hw => ?_)
  refine lv_aload_n hx hb dX5_init_25 rfl (lv_at hl 0 rfl) ?_
  refine lv_iconst (v := (0 : Int32)) hx hb dX5_init_26 (by decide) ?_
  refine sg_put (i := 0) (ci := 5) (j := 3) (N := 4) (T := TX5) (ty0 := tyX5) (ty := .int) (fs := [.ref (b + 1), .ref (b + 2), .int (0), .int 0]) C hw rfl wi_X5 tyX5_ok nmX5 (by decide) (by decide) rfl (Nat.le_of_ble_eq_true rfl) (fun _ => hmn) rfl (by decide +kernel) (x_mem (i := 383) (by decide +kernel) (by decide +kernel)) rfl rfl dX5_init_27 (fun H locs hw => ?_)
  refine ret ?_ dX5_init_30 hw
  exact fun i hi => match i, hi with | 0, _ => rfl | 1, _ => rfl | 2, _ => rfl | i + 3, h => absurd h (by omega)
def eX7 (g : xG) (b : Nat) : Nat → va_E := fun i => match i with
  | 0 => .inr (7, [.ref (b + 1), .ref (b + 2)])
  | 1 => .inl (g.2.1 0, 26, .inl (fun _ => 0))
  | _ => .inl (g.2.1 0, 120, .inl (fun _ => 0))
set_option maxRecDepth 100000 in
set_option maxHeartbeats 4000000 in
theorem kX7 (l : Launch) (g : xG) : sg_c l g yX7_init cX7_init 1 1 12 2 146 7 [.null, .null] 3 (eX7 g) := by
  refine sg_st RX7 (by decide) rfl rfl (by decide) ?_
  intro b p e s m args below meth c Q ls C hmn hw ret hl
  obtain ⟨hx, hb, -⟩ := id C
  refine lv_aload_n hx hb dX7_init_0 rfl (lv_at hl 0 rfl) ?_
  refine sg_obj C hl.1 lo_X7 (Nat.le_of_ble_eq_true rfl) (Nat.le_of_ble_eq_true rfl) dX7_init_1 ?_
  refine lv_aload_n hx hb dX7_init_4 rfl (lv_at hl 0 rfl) ?_
  refine lv_bipush (v := (26 : Int32)) hx hb dX7_init_5 (by decide) ?_
  refine sg_newi (v := (26 : Int32)) (N := 26) C hw (x_mem (i := 117) (by decide +kernel) (by decide +kernel)) (by decide) (by decide) (Nat.le_of_ble_eq_true rfl) (Nat.le_of_ble_eq_true rfl) (Nat.le_of_ble_eq_true rfl) dX7_init_7 (fun H hw => ?_)
  refine sg_put (i := 0) (ci := 7) (j := 0) (N := 2) (T := TX7) (ty0 := tyX7) (ty := .array .int) (fs := [.null, .null]) C hw rfl wi_X7 tyX7_ok nmX7 (by decide) (by decide) rfl (Nat.le_of_ble_eq_true rfl) (fun _ => hmn) rfl (by decide +kernel) (x_mem (i := 124) (by decide +kernel) (by decide +kernel)) rfl rfl dX7_init_9 (fun H locs hw => ?_)
  refine lv_aload_n hx hb dX7_init_12 rfl (lv_at hl 0 rfl) ?_
  refine lv_bipush (v := (120 : Int32)) hx hb dX7_init_13 (by decide) ?_
  refine sg_newi (v := (120 : Int32)) (N := 120) C hw (x_mem (i := 117) (by decide +kernel) (by decide +kernel)) (by decide) (by decide) (Nat.le_of_ble_eq_true rfl) (Nat.le_of_ble_eq_true rfl) (Nat.le_of_ble_eq_true rfl) dX7_init_15 (fun H hw => ?_)
  refine sg_put (i := 0) (ci := 7) (j := 1) (N := 2) (T := TX7) (ty0 := tyX7) (ty := .array .int) (fs := [.ref (b + 1), .null]) C hw rfl wi_X7 tyX7_ok nmX7 (by decide) (by decide) rfl (Nat.le_of_ble_eq_true rfl) (fun _ => hmn) rfl (by decide +kernel) (x_mem (i := 125) (by decide +kernel) (by decide +kernel)) rfl rfl dX7_init_17 (fun H locs hw => ?_)
  refine ret ?_ dX7_init_20 hw
  exact fun i hi => match i, hi with | 0, _ => rfl | 1, _ => rfl | 2, _ => rfl | i + 3, h => absurd h (by omega)
def eX6 (g : xG) (b : Nat) : Nat → va_E := fun i => match i with
  | 0 => .inr (6, [.ref (b + 1), .ref (b + 3), .ref (b + 6), .int (0), .int (0), .int (0), .int (-1), .int (0)])
  | 1 => .inr (9, [.ref (b + 2), .int (0), .int (0), .int (0)])
  | 2 => .inl (g.2.1 0, 120, .inl (fun _ => 0))
  | 3 => .inr (3, [.ref (b + 4), .ref (b + 5), .int (0), .int (0)])
  | 4 => .inl (g.2.1 0, 120, .inl (fun _ => 0))
  | 5 => .inl (g.2.1 0, 3, .inl (fun _ => 0))
  | _ => .inl (g.2.1 0, 120, .inl (fun _ => 0))
set_option maxRecDepth 100000 in
set_option maxHeartbeats 4000000 in
theorem kX6 (l : Launch) (g : xG) : sg_c l g yX6_init cX6_init 1 2 32 6 371 6 [.null, .null, .null, .int 0, .int 0, .int 0, .int 0, .int 0] 7 (eX6 g) := by
  refine sg_st RX6 (by decide) rfl rfl (by decide) ?_
  intro b p e s m args below meth c Q ls C hmn hw ret hl
  obtain ⟨hx, hb, -⟩ := id C
  refine lv_aload_n hx hb dX6_init_0 rfl (lv_at hl 0 rfl) ?_
  refine sg_obj C hl.1 lo_X6 (Nat.le_of_ble_eq_true rfl) (Nat.le_of_ble_eq_true rfl) dX6_init_1 ?_
  refine lv_aload_n hx hb dX6_init_4 rfl (lv_at hl 0 rfl) ?_
  refine sg_new (ci := 9) (N := 4) (T := TX9) (ty := tyX9) (fs := [.null, .int 0, .int 0, .int 0]) C hw rfl wi_X9 tyX9_ok (x_mem (i := 320) (by decide +kernel) (by decide +kernel)) (x_mem (i := 321) (by decide +kernel) (by decide +kernel)) (x_mem (i := 50) (by decide +kernel) (by decide +kernel)) (by decide) (Nat.le_of_ble_eq_true rfl) (Nat.le_of_ble_eq_true rfl) dX6_init_5 (fun H hw => ?_)
  refine lv_dup hx hb dX6_init_8 rfl ?_
  refine sg_iN (n := 1) (n1 := 2) C hw hl.1 [.ref (b + 1), .ref b] rfl (kX9 l g) li_X6_11 ⟨Nat.le_of_ble_eq_true rfl, Nat.le_of_ble_eq_true rfl⟩ (Nat.le_of_ble_eq_true rfl) ⟨Nat.le_of_ble_eq_true rfl, Nat.le_of_ble_eq_true rfl⟩ dX6_init_9 (fun H locs hw => ?_)
  refine sg_put (i := 0) (ci := 6) (j := 0) (N := 8) (T := TX6) (ty0 := tyX6) (ty := .object "DayFines$Tape") (fs := [.null, .null, .null, .int 0, .int 0, .int 0, .int 0, .int 0]) C hw rfl wi_X6 tyX6_ok nmX6 (by decide) (by decide) rfl (Nat.le_of_ble_eq_true rfl) (fun _ => hmn) rfl (by decide +kernel) (x_mem (i := 345) (by decide +kernel) (by decide +kernel)) rfl rfl dX6_init_12 (fun H locs hw => ?_)
  refine lv_aload_n hx hb dX6_init_15 rfl (lv_at hl 0 rfl) ?_
  refine sg_new (ci := 3) (N := 4) (T := TX3) (ty := tyX3) (fs := [.null, .null, .int 0, .int 0]) C hw rfl wi_X3 tyX3_ok (x_mem (i := 343) (by decide +kernel) (by decide +kernel)) (x_mem (i := 92) (by decide +kernel) (by decide +kernel)) (x_mem (i := 43) (by decide +kernel) (by decide +kernel)) (by decide) (Nat.le_of_ble_eq_true rfl) (Nat.le_of_ble_eq_true rfl) dX6_init_16 (fun H hw => ?_)
  refine lv_dup hx hb dX6_init_19 rfl ?_
  refine sg_iN (n := 3) (n1 := 3) C hw hl.1 [.ref (b + 3), .ref b] rfl (kX3 l g) li_X6_20 ⟨Nat.le_of_ble_eq_true rfl, Nat.le_of_ble_eq_true rfl⟩ (Nat.le_of_ble_eq_true rfl) ⟨Nat.le_of_ble_eq_true rfl, Nat.le_of_ble_eq_true rfl⟩ dX6_init_20 (fun H locs hw => ?_)
  refine sg_put (i := 0) (ci := 6) (j := 1) (N := 8) (T := TX6) (ty0 := tyX6) (ty := .object "DayFines$Law") (fs := [.ref (b + 1), .null, .null, .int 0, .int 0, .int 0, .int 0, .int 0]) C hw rfl wi_X6 tyX6_ok nmX6 (by decide) (by decide) rfl (Nat.le_of_ble_eq_true rfl) (fun _ => hmn) rfl (by decide +kernel) (x_mem (i := 347) (by decide +kernel) (by decide +kernel)) rfl rfl dX6_init_23 (fun H locs hw => ?_)
  refine lv_aload_n hx hb dX6_init_26 rfl (lv_at hl 0 rfl) ?_
  refine lv_bipush (v := (120 : Int32)) hx hb dX6_init_27 (by decide) ?_
  refine sg_newi (v := (120 : Int32)) (N := 120) C hw (x_mem (i := 117) (by decide +kernel) (by decide +kernel)) (by decide) (by decide) (Nat.le_of_ble_eq_true rfl) (Nat.le_of_ble_eq_true rfl) (Nat.le_of_ble_eq_true rfl) dX6_init_29 (fun H hw => ?_)
  refine sg_put (i := 0) (ci := 6) (j := 2) (N := 8) (T := TX6) (ty0 := tyX6) (ty := .array .int) (fs := [.ref (b + 1), .ref (b + 3), .null, .int 0, .int 0, .int 0, .int 0, .int 0]) C hw rfl wi_X6 tyX6_ok nmX6 (by decide) (by decide) rfl (Nat.le_of_ble_eq_true rfl) (fun _ => hmn) rfl (by decide +kernel) (x_mem (i := 349) (by decide +kernel) (by decide +kernel)) rfl rfl dX6_init_31 (fun H locs hw => ?_)
  refine lv_aload_n hx hb dX6_init_34 rfl (lv_at hl 0 rfl) ?_
  refine lv_iconst (v := (0 : Int32)) hx hb dX6_init_35 (by decide) ?_
  refine sg_put (i := 0) (ci := 6) (j := 3) (N := 8) (T := TX6) (ty0 := tyX6) (ty := .int) (fs := [.ref (b + 1), .ref (b + 3), .ref (b + 6), .int 0, .int 0, .int 0, .int 0, .int 0]) C hw rfl wi_X6 tyX6_ok nmX6 (by decide) (by decide) rfl (Nat.le_of_ble_eq_true rfl) (fun _ => hmn) rfl (by decide +kernel) (x_mem (i := 350) (by decide +kernel) (by decide +kernel)) rfl rfl dX6_init_36 (fun H locs hw => ?_)
  refine lv_aload_n hx hb dX6_init_39 rfl (lv_at hl 0 rfl) ?_
  refine lv_iconst (v := (0 : Int32)) hx hb dX6_init_40 (by decide) ?_
  refine sg_put (i := 0) (ci := 6) (j := 4) (N := 8) (T := TX6) (ty0 := tyX6) (ty := .int) (fs := [.ref (b + 1), .ref (b + 3), .ref (b + 6), .int (0), .int 0, .int 0, .int 0, .int 0]) C hw rfl wi_X6 tyX6_ok nmX6 (by decide) (by decide) rfl (Nat.le_of_ble_eq_true rfl) (fun _ => hmn) rfl (by decide +kernel) (x_mem (i := 351) (by decide +kernel) (by decide +kernel)) rfl rfl dX6_init_41 (fun H locs hw => ?_)
  refine lv_aload_n hx hb dX6_init_44 rfl (lv_at hl 0 rfl) ?_
  refine lv_iconst (v := (0 : Int32)) hx hb dX6_init_45 (by decide) ?_
  refine sg_put (i := 0) (ci := 6) (j := 5) (N := 8) (T := TX6) (ty0 := tyX6) (ty := .int) (fs := [.ref (b + 1), .ref (b + 3), .ref (b + 6), .int (0), .int (0), .int 0, .int 0, .int 0]) C hw rfl wi_X6 tyX6_ok nmX6 (by decide) (by decide) rfl (Nat.le_of_ble_eq_true rfl) (fun _ => hmn) rfl (by decide +kernel) (x_mem (i := 352) (by decide +kernel) (by decide +kernel)) rfl rfl dX6_init_46 (fun H locs hw => ?_)
  refine lv_aload_n hx hb dX6_init_49 rfl (lv_at hl 0 rfl) ?_
  refine lv_iconst (v := (-1 : Int32)) hx hb dX6_init_50 (by decide) ?_
  refine sg_put (i := 0) (ci := 6) (j := 6) (N := 8) (T := TX6) (ty0 := tyX6) (ty := .int) (fs := [.ref (b + 1), .ref (b + 3), .ref (b + 6), .int (0), .int (0), .int (0), .int 0, .int 0]) C hw rfl wi_X6 tyX6_ok nmX6 (by decide) (by decide) rfl (Nat.le_of_ble_eq_true rfl) (fun _ => hmn) rfl (by decide +kernel) (x_mem (i := 353) (by decide +kernel) (by decide +kernel)) rfl rfl dX6_init_51 (fun H locs hw => ?_)
  refine lv_aload_n hx hb dX6_init_54 rfl (lv_at hl 0 rfl) ?_
  refine lv_iconst (v := (0 : Int32)) hx hb dX6_init_55 (by decide) ?_
  refine sg_put (i := 0) (ci := 6) (j := 7) (N := 8) (T := TX6) (ty0 := tyX6) (ty := .boolean) (fs := [.ref (b + 1), .ref (b + 3), .ref (b + 6), .int (0), .int (0), .int (0), .int (-1), .int 0]) C hw rfl wi_X6 tyX6_ok nmX6 (by decide) (by decide) rfl (Nat.le_of_ble_eq_true rfl) (fun _ => hmn) rfl (by decide +kernel) (x_mem (i := 354) (by decide +kernel) (by decide +kernel)) rfl rfl dX6_init_56 (fun H locs hw => ?_)
  refine ret ?_ dX6_init_59 hw
  exact fun i hi => match i, hi with | 0, _ => rfl | 1, _ => rfl | 2, _ => rfl | 3, _ => rfl | 4, _ => rfl | 5, _ => rfl | 6, _ => rfl | i + 7, h => absurd h (by omega)
