/-- the tables' words that every method may keep -/
def x_tb : List Cond := lw_tbl.filter goodWord
theorem x_mem {i : Nat} {w : Cond} (h : lw_tbl[i]? = some w) (hg : goodWord w = true) : w ∈ x_tb := List.mem_filter.mpr ⟨List.mem_of_getElem? h, hg⟩
theorem x_memL {ws : List Cond} (ps : List Nat) (h : ws = ps.filterMap (fun i => lw_tbl[i]?)) (hg : ws.all goodWord = true) : ∀ w ∈ ws, w ∈ x_tb := by
  intro w hw
  have h1 := List.all_eq_true.mp hg w hw
  rw [h] at hw
  obtain ⟨i, -, hi⟩ := List.mem_filterMap.mp hw
  exact x_mem hi h1
/-! a world of a fixed form: each cell has a number; kinds, references and lengths stand fast, M holds the ints. sh = 0: the class, sh = 1: the reference -/
abbrev xM : Type := Nat → Nat → Int32
/-- classes and slots, array classes, addresses of cells, addresses of what is static -/
abbrev xG : Type := va_G × (Nat → ClassId) × (Nat → Nat) × (Nat → Nat)
/-- how many fields -/
def xf (c : Nat) : Nat := match c with
  | 0 => 5
  | 1 => 6
  | 2 => 10
  | 3 => 4
  | 4 => 3
  | 5 => 4
  | 6 => 8
  | 7 => 2
  | 8 => 13
  | 9 => 4
  | 10 => 10
  | 11 => 31
  | _ => 0
/-- which of them are references -/
def xs (c j : Nat) : Bool := match c with
  | 3 => Nat.blt j 2
  | 5 => Nat.blt j 2
  | 6 => Nat.blt j 3
  | 7 => true
  | 8 => Nat.ble 5 j
  | 9 => Nat.beq j 0
  | 10 => [true, true, false, true, true, true, false, true, true, true].getD j false
  | 11 => [true, true, false, true, false, false, false, false, false, false, false, false, false, false, true, true, false, false, false, true, true, true, true, true, false, true, true, false, true, true, true].getD j false
  | _ => false
/-- how many cells -/
def xN (sh : Nat) : Nat := if sh = 0 then 351 else 16
/-- a cell's kind: an object's class; 12 ints, 13 booleans, 14 on references -/
def xk (sh k : Nat) : Nat :=
  if sh = 0 then
    (if k < 19 then [10, 8, 8, 6, 5, 12, 18, 13, 12, 12, 12, 9, 3, 12, 12, 12, 12, 12, 12].getD k 0
     else if (k - 19) % 166 < 12 then [17, 15, 14, 16, 12, 12, 3, 12, 12, 7, 12, 12].getD ((k - 19) % 166) 0
     else if (k - 19) % 166 < 24 then 4 else if (k - 19) % 166 < 120 then 1 else if (k - 19) % 166 < 150 then 0 else 2)
  else (if k = 0 then 11 else 12)
/-- an array's length -/
def xn (sh k : Nat) : Nat :=
  if sh = 0 then
    (if k < 19 then [0, 0, 0, 0, 0, 30, 2, 2, 2, 24, 24, 0, 0, 120, 120, 120, 3, 24, 24].getD k 0
     else [12, 96, 30, 16, 16, 4, 0, 120, 3, 0, 26, 120].getD ((k - 19) % 166) 0)
  else [0, 1675, 1675, 120, 723, 130, 130, 128, 24, 16, 16, 24, 30, 48, 2, 24].getD k 0
/-- where a cell's reference j points -/
def xr (sh k j : Nat) : Nat :=
  if sh = 0 then
    (if k = 0 then [1, 2, 0, 3, 4, 5, 0, 6, 7, 8].getD j 0
     else if k < 3 then 19 + 166 * (k - 1) + [0, 0, 0, 0, 0, 0, 1, 2, 3, 4, 5, 6, 9].getD j 0
     else if k = 3 then 11 + j
     else if k = 4 then 17 + j
     else if k = 6 then 9 + j
     else if k = 11 then 14
     else if k = 12 then 15 + j
     else if (k - 19) % 166 = 0 then k + 12 + j
     else if (k - 19) % 166 = 1 then k + 23 + j
     else if (k - 19) % 166 = 2 then k + 118 + j
     else if (k - 19) % 166 = 3 then k + 147 + j
     else k + 1 + j)
  else [1, 2, 0, 3, 0, 0, 0, 0, 0, 0, 0, 0, 0, 0, 4, 5, 0, 0, 0, 6, 7, 8, 9, 10, 0, 11, 12, 0, 13, 14, 15].getD j 0
/-- the kind of what reference j of a cell of kind c points to -/
def xt (c j : Nat) : Nat := match c with
  | 6 => [9, 3, 12].getD j 0
  | 8 => [0, 0, 0, 0, 0, 17, 15, 14, 16, 12, 12, 3, 7].getD j 0
  | 10 => [8, 8, 0, 6, 5, 12, 0, 18, 13, 12].getD j 0
  | 14 => 0
  | 15 => 1
  | 16 => 2
  | 17 => 4
  | _ => 12
def x_is (sh k c : Nat) : Prop := k < xN sh ∧ xk sh k = c
def x_okr (k j : Nat) : Bool := !(Nat.blt (xk 0 k) 12 && (xs (xk 0 k) j && Nat.blt j (xf (xk 0 k)))) || (Nat.blt (xr 0 k j) 351 && Nat.beq (xk 0 (xr 0 k j)) (xt (xk 0 k) j))
def x_oka (k j : Nat) : Bool := !(Nat.ble 14 (xk 0 k) && Nat.blt j (xn 0 k)) || (Nat.blt (xr 0 k j) 351 && Nat.beq (xk 0 (xr 0 k j)) (xt (xk 0 k) j))
theorem x_okr_all : (List.range 351).all (fun k => (List.range 13).all (fun j => x_okr k j)) = true := by decide +kernel
theorem x_oka_all : (List.range 351).all (fun k => (List.range 96).all (fun j => x_oka k j)) = true := by decide +kernel
theorem x_len_all : (List.range 351).all (fun k => Nat.ble 14 (xk 0 k) == false || Nat.ble (xn 0 k) 96) = true := by decide +kernel
theorem x_ty0 (k : Nat) (hk : k < 351) (j : Nat) (hj : j < 13) (h1 : xk 0 k < 12) (h2 : xs (xk 0 k) j = true) (h3 : j < xf (xk 0 k)) : xr 0 k j < 351 ∧ xk 0 (xr 0 k j) = xt (xk 0 k) j := by
  have h := List.all_eq_true.mp (List.all_eq_true.mp x_okr_all k (List.mem_range.mpr hk)) j (List.mem_range.mpr hj)
  unfold x_okr at h
  simp only [Nat.blt_eq.mpr h1, h2, Nat.blt_eq.mpr h3, Bool.and_self, Bool.not_true, Bool.false_or, Bool.and_eq_true, Nat.blt_eq, Nat.beq_eq] at h
  exact h
theorem x_ty1 : ∀ j, j < 31 → xs 11 j = true → xr 1 0 j < 16 ∧ xk 1 (xr 1 0 j) = 12 := by decide +kernel
theorem x_tyA (k : Nat) (hk : k < 351) (h1 : 14 ≤ xk 0 k) (j : Nat) (hj : j < xn 0 k) : xr 0 k j < 351 ∧ xk 0 (xr 0 k j) = xt (xk 0 k) j := by
  have h0 := List.all_eq_true.mp x_len_all k (List.mem_range.mpr hk)
  have hn : xn 0 k ≤ 96 := by
    simp only [Nat.ble_eq.mpr h1, Bool.or_eq_true, Nat.ble_eq] at h0
    rcases h0 with h0 | h0
    · cases h0
    · exact h0
  have h := List.all_eq_true.mp (List.all_eq_true.mp x_oka_all k (List.mem_range.mpr hk)) j (List.mem_range.mpr (Nat.lt_of_lt_of_le hj hn))
  unfold x_oka at h
  simp only [Nat.ble_eq.mpr h1, Nat.blt_eq.mpr hj, Bool.and_self, Bool.not_true, Bool.false_or, Bool.and_eq_true, Nat.blt_eq, Nat.beq_eq] at h
  exact h
/-- a reference of an object of the class -/
theorem x_tr {k c j : Nat} (h : x_is 0 k c) (hc : c < 12) (hj : j < xf c) (hs : xs c j = true) (hj2 : j < 13) : x_is 0 (xr 0 k j) (xt c j) := by
  obtain ⟨h1, rfl⟩ := h
  exact x_ty0 k h1 j hj2 hc hs hj
theorem x_tm {k j : Nat} (h : x_is 1 k 11) (hj : j < 31) (hs : xs 11 j = true) : x_is 1 (xr 1 k j) 12 := by
  obtain ⟨h1, h2⟩ := h
  have hk : k = 0 := by
    by_cases e : k = 0
    · exact e
    · rw [xk, if_neg (by decide), if_neg e] at h2
      exact absurd h2 (by decide)
  subst hk
  exact x_ty1 j hj hs
theorem x_ta {k c j : Nat} (h : x_is 0 k c) (hc : 14 ≤ c) (hj : j < xn 0 k) : x_is 0 (xr 0 k j) (xt c j) := by
  obtain ⟨h1, rfl⟩ := h
  exact x_tyA k h1 hc j hj
/-- what a cell holds -/
def x_E (g : xG) (sh : Nat) (M : xM) (k : Nat) : va_E :=
  if xk sh k < 12 then .inr (xk sh k, (List.range (xf (xk sh k))).map (fun j => if xs (xk sh k) j = true then .ref (g.2.2.1 (xr sh k j)) else .int (M k j)))
  else if xk sh k < 14 then .inl (g.2.1 (xk sh k - 12), xn sh k, .inl (M k))
  else .inl (g.2.1 (xk sh k - 12), xn sh k, .inr (.inr (.inr (.inr (fun j => some (g.2.2.1 (xr sh k j)))))))
def x_W (g : xG) (sh : Nat) (M : xM) : va_W := (List.range (xN sh)).map (fun k => (g.2.2.1 k, x_E g sh M k))
/-- the classes of arrays -/
def x_T (g : xG) : List (ClassId × FieldType) := [(g.2.1 0, .int), (g.2.1 1, .boolean), (g.2.1 2, .object "DayFines$Deed"), (g.2.1 3, .object "DayFines$Fact"), (g.2.1 4, .object "DayFines$Judgment"), (g.2.1 5, .object "DayFines$Person"), (g.2.1 6, .array .int)]
theorem x_W_get {g : xG} {sh : Nat} {M : xM} {k : Nat} (h : k < xN sh) : (x_W g sh M)[k]? = some (g.2.2.1 k, x_E g sh M k) := by
  unfold x_W
  rw [List.getElem?_map, List.getElem?_range h]
  rfl
theorem x_W_set {g : xG} {sh : Nat} {M M' : xM} {k : Nat} {e : va_E} (h : k < xN sh) (ho : ∀ i, i ≠ k → x_E g sh M' i = x_E g sh M i) (he : x_E g sh M' k = e) : (x_W g sh M).set k (g.2.2.1 k, e) = x_W g sh M' := by
  subst he
  apply List.ext_getElem?
  intro i
  by_cases hi : i = k
  · subst hi
    rw [x_W_get h, List.getElem?_set_self (by unfold x_W; rw [List.length_map, List.length_range]; exact h)]
  · rw [List.getElem?_set_ne (Ne.symm hi)]
    unfold x_W
    rw [List.getElem?_map, List.getElem?_map]
    cases hr : (List.range (xN sh))[i]? with
    | none => rfl
    | some j =>
      have hj : j = i := by
        obtain ⟨h1, h2⟩ := List.getElem?_eq_some_iff.mp hr
        rw [List.getElem_range] at h2
        exact h2.symm
      subst hj
      show some (g.2.2.1 j, x_E g sh M j) = some (g.2.2.1 j, x_E g sh M' j)
      rw [ho j hi]
theorem x_Eo {g : xG} {sh k c : Nat} {M : xM} (h : x_is sh k c) (hc : c < 12) : x_E g sh M k = .inr (c, (List.range (xf c)).map (fun j => if xs c j = true then .ref (g.2.2.1 (xr sh k j)) else .int (M k j))) := by
  obtain ⟨-, rfl⟩ := h
  unfold x_E
  rw [if_pos hc]
theorem x_Ei {g : xG} {sh k : Nat} {M : xM} (h : x_is sh k 12) : x_E g sh M k = .inl (g.2.1 0, xn sh k, .inl (M k)) := by
  obtain ⟨-, h⟩ := h
  unfold x_E
  rw [h]
  rfl
theorem x_Ez {g : xG} {sh k : Nat} {M : xM} (h : x_is sh k 13) : x_E g sh M k = .inl (g.2.1 1, xn sh k, .inl (M k)) := by
  obtain ⟨-, h⟩ := h
  unfold x_E
  rw [h]
  rfl
theorem x_Eq {g : xG} {sh k c : Nat} {M : xM} (h : x_is sh k c) (hc : 14 ≤ c) : x_E g sh M k = .inl (g.2.1 (c - 12), xn sh k, .inr (.inr (.inr (.inr (fun j => some (g.2.2.1 (xr sh k j))))))) := by
  obtain ⟨-, rfl⟩ := h
  unfold x_E
  rw [if_neg (by omega), if_neg (by omega)]
def x_up (M : xM) (k j : Nat) (v : Int32) : xM := fun a => if a = k then upd (M a) j v else M a
theorem x_up_row (M : xM) (k j : Nat) (v : Int32) : x_up M k j v k = upd (M k) j v := if_pos rfl
theorem x_up_ne (M : xM) {k a : Nat} (j : Nat) (v : Int32) (h : a ≠ k) : x_up M k j v a = M a := if_neg h
theorem x_E_ne {g : xG} {sh : Nat} {M M' : xM} {i : Nat} (h : M' i = M i) : x_E g sh M' i = x_E g sh M i := by
  unfold x_E
  rw [h]
def x_inj (g : xG) (sh : Nat) : Prop := ∀ i j, i < xN sh → j < xN sh → g.2.2.1 i = g.2.2.1 j → i = j
/-- what a method of the world may change -/
def x_A (g : xG) (sh sz : Nat) : Nat → Prop := fun q => (∃ k, k < xN sh ∧ q = g.2.2.1 k) ∨ sz ≤ q
theorem x_A_mono {g : xG} {sh a b : Nat} (h : a ≤ b) : ∀ q, x_A g sh b q → x_A g sh a q := fun _ hq => hq.elim Or.inl (fun z => Or.inr (Nat.le_trans h z))
theorem x_D {g : xG} {sh sz : Nat} {M : xM} (h : x_inj g sh) : va_D (x_A g sh sz) (x_W g sh M) := by
  have key : ∀ (k : Nat) (q : Nat × va_E), (x_W g sh M)[k]? = some q → k < xN sh ∧ q.1 = g.2.2.1 k := by
    intro k q hk
    have hl : k < xN sh := by
      have := (List.getElem?_eq_some_iff.mp hk).1
      unfold x_W at this
      rwa [List.length_map, List.length_range] at this
    rw [x_W_get hl] at hk
    cases hk
    exact ⟨hl, rfl⟩
  refine ⟨fun i j x y hx hy hxy => ?_, fun k q hk => ?_⟩
  · obtain ⟨a1, a2⟩ := key i x hx
    obtain ⟨b1, b2⟩ := key j y hy
    exact h i j a1 b1 (a2.symm.trans (hxy.trans b2))
  · obtain ⟨a1, a2⟩ := key k q hk
    exact Or.inl ⟨k, a1, a2⟩
/-- the nest's links -/
def x_Ns (U : State) : Prop := ∀ (a : String) (i : Nat) (x : MethodName) (h : String), Cond.methodLinkNest a i x h ∈ lw_tbl → va_Nw (.methodLinkNest a i x h) U
theorem x_Ns.warm {s U : State} (hW : s.WarmedH U.vm) (h : x_Ns s) : x_Ns U := fun a i x n hm => va_Nw.warmM hW (h a i x n hm)
theorem x_Ns.same {u U : State} (hv : u.vm = U.vm) (h : x_Ns u) : x_Ns U := fun a i x n hm => va_Nw.same rfl hv (h a i x n hm)
/-- what is static: the two rows of the rules' bounds -/
def x_most (j : Nat) : Int32 := [99999, 3000, 999, 999, 100, 9999, 9999, 9999, 3000, 3000, 100, 3000, 3000, 9999, 100, 9999].getD j 0
def x_first (j : Nat) : Int32 := [1000, 365, 1, 120, 50, 240, 1, 1000, 30, 400, 4, 30, 365, 300, 50, 0].getD j 0
/-- the texts: days, sum, hours, gpaky, inwdsy, uy -/
def x_len : List Nat := [4, 3, 5, 5, 6, 2]
def x_byt : List (List Int32) := [[100, 97, 121, 115], [115, 117, 109], [104, 111, 117, 114, 115], [103, 112, 97, 107, 121], [105, 110, 119, 100, 115, 121], [117, 121]]
def x_Tx (g : xG) (U : State) : Prop := vk_R "DayFines$Reader" 151 "days" (g.2.2.2 (1 + 0)) U ∧ vk_R "DayFines$Reader" 153 "sum" (g.2.2.2 (1 + 1)) U ∧ vk_R "DayFines$Reader" 155 "hours" (g.2.2.2 (1 + 2)) U ∧ vk_R "DayFines$Reader" 157 "gpaky" (g.2.2.2 (1 + 3)) U ∧ vk_R "DayFines$Reader" 159 "inwdsy" (g.2.2.2 (1 + 4)) U ∧ vk_R "DayFines$Reader" 161 "uy" (g.2.2.2 (1 + 5)) U
theorem x_Tx.warm {g : xG} {s U : State} (hW : s.WarmedH U.vm) (h : x_Tx g s) : x_Tx g U := ⟨h.1.warm hW, h.2.1.warm hW, h.2.2.1.warm hW, h.2.2.2.1.warm hW, h.2.2.2.2.1.warm hW, h.2.2.2.2.2.warm hW⟩
theorem x_Tx.same {g : xG} {s U : State} (hv : U.vm = s.vm) (h : x_Tx g s) : x_Tx g U := ⟨h.1.same hv, h.2.1.same hv, h.2.2.1.same hv, h.2.2.2.1.same hv, h.2.2.2.2.1.same hv, h.2.2.2.2.2.same hv⟩
def x_Sy (g : xG) (A : Nat → Prop) (U : State) (H : Heap) : Prop := va_Z "DayFines" "RULE_AT_FIRST" "[I" (.ref (g.2.2.2 13)) A U H ∧ va_T .int (g.2.2.2 13) 16 (fun j => .int (x_first j)) A U H ∧ vk_S 6 x_len x_byt (fun i => g.2.2.2 (1 + i)) (fun i => g.2.2.2 (7 + i)) A U H ∧ va_Z "java/lang/String" "COMPACT_STRINGS" "Z" (.int 1) A U H ∧ va_Zq "jdk/internal/util/Preconditions" "SIOOBE_FORMATTER" "Ljava/util/function/BiFunction;" A U H
theorem x_Sy.mv {g : xG} {A B : Nat → Prop} {s U : State} {H H1 : Heap} (hW : s.vm.Alike U.vm) (hq : ∀ a : Nat, a < H.size → ¬ A a → H1[a]? = H[a]?) (hAB : ∀ q, B q → A q) (h : x_Sy g A s H) : x_Sy g B U H1 :=
  ⟨((h.1.moved hW).kept hq).narrow hAB, ((h.2.1.moved hW).kept hq).narrow hAB, ((h.2.2.1.moved hW).kept hq).narrow hAB, ((h.2.2.2.1.moved hW).kept hq).narrow hAB, ((h.2.2.2.2.moved hW).kept hq).narrow hAB⟩
def x_Sx (g : xG) (A : Nat → Prop) (U : State) (H : Heap) : Prop := va_Z "DayFines" "RULE_AT_MOST" "[I" (.ref (g.2.2.2 0)) A U H ∧ va_T .int (g.2.2.2 0) 16 (fun j => .int (x_most j)) A U H ∧ x_Sy g A U H ∧ x_Tx g U
theorem x_Sx.warm {g : xG} {A B : Nat → Prop} {s U : State} {H H1 : Heap} (hW : s.WarmedH U.vm) (hq : ∀ a : Nat, a < H.size → ¬ A a → H1[a]? = H[a]?) (hAB : ∀ q, B q → A q) (h : x_Sx g A s H) : x_Sx g B U H1 :=
  ⟨((h.1.moved hW.alike).kept hq).narrow hAB, ((h.2.1.moved hW.alike).kept hq).narrow hAB, h.2.2.1.mv hW.alike hq hAB, h.2.2.2.warm hW⟩
theorem x_Sx.same {g : xG} {A : Nat → Prop} {s U : State} {H : Heap} (hv : s.vm = U.vm) (h : x_Sx g A s H) : x_Sx g A U H :=
  ⟨h.1.moved (by rw [hv]; exact Vm.Alike.refl _), h.2.1.moved (by rw [hv]; exact Vm.Alike.refl _), h.2.2.1.mv (by rw [hv]; exact Vm.Alike.refl _) (fun _ _ _ => rfl) (fun _ z => z), h.2.2.2.same hv.symm⟩
/-- what stands fast -/
def x_K (g : xG) (sh : Nat) (U : State) : Prop := va_K g.1 vwCl (x_T g) U ∧ x_Ns U ∧ x_inj g sh ∧ x_Sx g (x_A g sh U.heap.size) U U.heap
/-- a method's run -/
def x_C (g : xG) (sh : Nat) (p : Program) (s : State) (m : MethodId) (args : Array Value) (c : Code) (cc : ByteArray) (nL : Nat) (own : String) : Prop :=
  p.tables.exec = Jvm.exec ∧ c.code = cc ∧ c.maxLocals = nL ∧ s.vm.findClass own = some m.cls ∧ (∀ w ∈ x_tb, w.before args s = true) ∧ x_K g sh s
/-- the heap holds M; what isn't ours is as it was -/
def x_w (g : xG) (sh : Nat) (s : State) (H : Heap) (locs : List Loc) (M : xM) : Prop := va_P g.1 vwCl (x_W g sh M) H ∧ va_S (x_A g sh s.heap.size) s.heap H locs
theorem x_map_set {α : Type} {n j : Nat} {h h' : Nat → α} {y : α} (ho : ∀ i, i ≠ j → h' i = h i) (he : h' j = y) : ((List.range n).map h).set j y = (List.range n).map h' := by
  subst he
  apply List.ext_getElem?
  intro i
  by_cases hi : i = j
  · subst hi
    by_cases hn : i < n
    · rw [List.getElem?_set_self (by rw [List.length_map, List.length_range]; exact hn), List.getElem?_map, List.getElem?_range hn]
      rfl
    · rw [List.getElem?_eq_none (by rw [List.length_set, List.length_map, List.length_range]; omega), List.getElem?_eq_none (by rw [List.length_map, List.length_range]; omega)]
  · rw [List.getElem?_set_ne (Ne.symm hi), List.getElem?_map, List.getElem?_map]
    by_cases hn : i < n
    · rw [List.getElem?_range hn]
      show some (h i) = some (h' i)
      rw [ho i hi]
    · rw [List.getElem?_eq_none (by rw [List.length_range]; omega)]
      rfl
theorem x_W_upo {g : xG} {sh k c j : Nat} {M : xM} {v : Int32} (h : x_is sh k c) (hc : c < 12) (hs : xs c j = false) : (x_W g sh M).set k (g.2.2.1 k, .inr (c, ((List.range (xf c)).map (fun j => if xs c j = true then .ref (g.2.2.1 (xr sh k j)) else .int (M k j))).set j (.int v))) = x_W g sh (x_up M k j v) := by
  refine x_W_set h.1 (fun i hi => x_E_ne (x_up_ne M j v hi)) ?_
  rw [x_Eo h hc]
  congr 2
  refine (x_map_set (fun i hi => ?_) ?_).symm
  · rw [x_up_row]
    unfold upd
    rw [if_neg hi]
  · rw [x_up_row]
    unfold upd
    rw [if_pos rfl, hs]
    rfl
theorem x_W_upa {g : xG} {sh k j : Nat} {M : xM} {v : Int32} (h : x_is sh k 12) : (x_W g sh M).set k (g.2.2.1 k, .inl (g.2.1 0, xn sh k, .inl (upd (M k) j v))) = x_W g sh (x_up M k j v) := by
  refine x_W_set h.1 (fun i hi => x_E_ne (x_up_ne M j v hi)) ?_
  rw [x_Ei h, x_up_row]
theorem x_W_upz {g : xG} {sh k j : Nat} {M : xM} {v : Int32} (h : x_is sh k 13) : (x_W g sh M).set k (g.2.2.1 k, .inl (g.2.1 1, xn sh k, .inl (upd (M k) j v))) = x_W g sh (x_up M k j v) := by
  refine x_W_set h.1 (fun i hi => x_E_ne (x_up_ne M j v hi)) ?_
  rw [x_Ez h, x_up_row]
section XR
variable {p : Program} {l : Launch} {e : Env} {R : Room} {s : State} {m : MethodId} {args : Array Value} {below : List Frame} {meth : Method} {c : Code} {H : Heap} {locs : List Loc} {cells slots : Nat} {Q : State → Prop}
variable {cc : ByteArray} {pc nL : Nat} {ls : Array Slot} {rest : List Value} {own : String} {g : xG} {sh : Nat} {M : xM}
theorem x_geti (C : x_C g sh p s m args c cc nL own) (hw : x_w g sh s H locs M) {k ci j N index : Nat} {Cn : String} {T : u_T} (hc : vwCl[ci]? = some (Cn, T, N)) (hci : ci < 12) (hin : ∀ w ∈ u_ws Cn T N, w ∈ x_tb) (hN : xf ci = N) (hj : j < N) (hs : xs ci j = false) (hlink : Cond.fieldLink own index (T j).1 (T j).2.1 (T j).2.2.1 ∈ x_tb) (hk : x_is sh k ci) (hdg : decode cc pc = .ok (.getfield index, 3))
    (kk : W p l e R s m args below meth c H locs cells slots Q (F0 m (pc + 3) ls (.int (M k j) :: rest))) : W p l e R s m args below meth c H locs cells slots Q (F0 m pc ls (.ref (g.2.2.1 k) :: rest)) := by
  obtain ⟨hx, hb, -, hown, hts, hK, -⟩ := C
  refine va_get (D := g.1) (tys := x_T g) hx hb hts hin hown hK hw.1 k ((x_W_get hk.1).trans (by rw [x_Eo hk hci])) hc j hj (hts _ hlink) (fun _ h => h) ?_ hdg kk
  rw [List.getElem?_map, List.getElem?_range (by omega)]
  show some (if xs ci j = true then _ else _) = _
  rw [hs]
  rfl
theorem x_getr (C : x_C g sh p s m args c cc nL own) (hw : x_w g sh s H locs M) {k ci j N index : Nat} {Cn : String} {T : u_T} (hc : vwCl[ci]? = some (Cn, T, N)) (hci : ci < 12) (hin : ∀ w ∈ u_ws Cn T N, w ∈ x_tb) (hN : xf ci = N) (hj : j < N) (hs : xs ci j = true) (hlink : Cond.fieldLink own index (T j).1 (T j).2.1 (T j).2.2.1 ∈ x_tb) (hk : x_is sh k ci) (hdg : decode cc pc = .ok (.getfield index, 3))
    (kk : W p l e R s m args below meth c H locs cells slots Q (F0 m (pc + 3) ls (.ref (g.2.2.1 (xr sh k j)) :: rest))) : W p l e R s m args below meth c H locs cells slots Q (F0 m pc ls (.ref (g.2.2.1 k) :: rest)) := by
  obtain ⟨hx, hb, -, hown, hts, hK, -⟩ := C
  refine va_get (D := g.1) (tys := x_T g) hx hb hts hin hown hK hw.1 k ((x_W_get hk.1).trans (by rw [x_Eo hk hci])) hc j hj (hts _ hlink) (fun _ h => h) ?_ hdg kk
  rw [List.getElem?_map, List.getElem?_range (by omega)]
  show some (if xs ci j = true then _ else _) = _
  rw [hs]
  rfl
theorem x_put (C : x_C g sh p s m args c cc nL own) (hw : x_w g sh s H locs M) {k ci j N index : Nat} {Cn : String} {T : u_T} {ty0 : Nat → FieldType} {ty : FieldType} {v : Int32} (hc : vwCl[ci]? = some (Cn, T, N)) (hci : ci < 12) (hin : ∀ w ∈ u_ws Cn T N, w ∈ x_tb) (hty : ∀ k, k < N → parseFieldDescriptor (T k).2.2.1 = some (ty0 k)) (hnm : ∀ a, a < N → ∀ b, b < N → a ≠ b → (T a).2.1 ≠ (T b).2.1) (hN : xf ci = N) (hj : j < N) (hs : xs ci j = false) (hfin : (T j).2.2.2 = false) (hd : parseFieldDescriptor (T j).2.2.1 = some ty) (hlink : Cond.fieldLink own index (T j).1 (T j).2.1 (T j).2.2.1 ∈ x_tb) (hn : narrow ty (.int v) = .int v) (hfit : fits ty (.int v) = true) (hk : x_is sh k ci) (hdg : decode cc pc = .ok (.putfield index, 3))
    (kk : ∀ (H1 : Heap) (locs1 : List Loc), x_w g sh s H1 locs1 (x_up M k j v) → W p l e R s m args below meth c H1 locs1 cells slots Q (F0 m (pc + 3) ls rest)) : W p l e R s m args below meth c H locs cells slots Q (F0 m pc ls (.int v :: .ref (g.2.2.1 k) :: rest)) := by
  obtain ⟨hx, hb, -, hown, hts, hK, hNs, hi, -⟩ := C
  refine va_put (D := g.1) (tys := x_T g) (A := x_A g sh s.heap.size) (ty := ty) hx hb hts hin ty0 hty hnm hown hK hw.1 (x_D hi) hw.2 k ((x_W_get hk.1).trans (by rw [x_Eo hk hci])) hc j hj (hts _ hlink) (fun _ h => h) hfin hd hn hfit (by rw [List.length_map, List.length_range]; omega) hdg (fun H1 locs1 h1 h2 h3 => ?_)
  rw [x_W_upo hk hci hs] at h1
  exact kk H1 locs1 ⟨h1, h3⟩
theorem x_ald (C : x_C g sh p s m args c cc nL own) (hw : x_w g sh s H locs M) {k j : Nat} {i : Int32} (hk : x_is sh k 12) (hin : vp_in i (xn sh k)) (hj : i.toNatClampNeg = j) (hdg : decode cc pc = .ok (.iaload, 1))
    (kk : W p l e R s m args below meth c H locs cells slots Q (F0 m (pc + 1) ls (.int (M k j) :: rest))) : W p l e R s m args below meth c H locs cells slots Q (F0 m pc ls (.int i :: .ref (g.2.2.1 k) :: rest)) :=
  va_iald (D := g.1) (tys := x_T g) C.1 C.2.1 C.2.2.2.2.2.1 hw.1 k 0 ((x_W_get hk.1).trans (by rw [x_Ei hk])) rfl hin hdg (hj ▸ kk)
theorem x_ast (C : x_C g sh p s m args c cc nL own) (hw : x_w g sh s H locs M) {k j : Nat} {i v : Int32} (hk : x_is sh k 12) (hin : vp_in i (xn sh k)) (hj : i.toNatClampNeg = j) (hdg : decode cc pc = .ok (.iastore, 1))
    (kk : ∀ (H1 : Heap) (locs1 : List Loc), x_w g sh s H1 locs1 (x_up M k j v) → W p l e R s m args below meth c H1 locs1 cells slots Q (F0 m (pc + 1) ls rest)) : W p l e R s m args below meth c H locs cells slots Q (F0 m pc ls (.int v :: .int i :: .ref (g.2.2.1 k) :: rest)) := by
  obtain ⟨hx, hb, -, hown, hts, hK, hNs, hi, -⟩ := C
  refine va_iast (D := g.1) (tys := x_T g) (A := x_A g sh s.heap.size) hx hb hK hw.1 (x_D hi) hw.2 k 0 ((x_W_get hk.1).trans (by rw [x_Ei hk])) rfl hin hdg (fun H1 locs1 h1 h2 h3 => ?_)
  rw [x_W_upa hk, hj] at h1
  exact kk H1 locs1 ⟨h1, h3⟩
theorem x_zld (C : x_C g sh p s m args c cc nL own) (hw : x_w g sh s H locs M) {k j : Nat} {i : Int32} (hk : x_is sh k 13) (hin : vp_in i (xn sh k)) (hj : i.toNatClampNeg = j) (hdg : decode cc pc = .ok (.baload, 1))
    (kk : W p l e R s m args below meth c H locs cells slots Q (F0 m (pc + 1) ls (.int (M k j) :: rest))) : W p l e R s m args below meth c H locs cells slots Q (F0 m pc ls (.int i :: .ref (g.2.2.1 k) :: rest)) :=
  va_zald (D := g.1) (tys := x_T g) C.1 C.2.1 C.2.2.2.2.2.1 hw.1 k 1 ((x_W_get hk.1).trans (by rw [x_Ez hk])) rfl hin hdg (hj ▸ kk)
theorem x_rld (C : x_C g sh p s m args c cc nL own) (hw : x_w g sh s H locs M) {k t k2 : Nat} {Cn : String} {i : Int32} (hk : x_is sh k (t + 12)) (h2 : 2 ≤ t) (ht : (x_T g)[t]? = some (g.2.1 t, .object Cn)) (hin : vp_in i (xn sh k)) (hq : xr sh k i.toNatClampNeg = k2) (hdg : decode cc pc = .ok (.aaload, 1))
    (kk : W p l e R s m args below meth c H locs cells slots Q (F0 m (pc + 1) ls (.ref (g.2.2.1 k2) :: rest))) : W p l e R s m args below meth c H locs cells slots Q (F0 m pc ls (.int i :: .ref (g.2.2.1 k) :: rest)) :=
  va_aldq (D := g.1) (tys := x_T g) (f := fun j => some (g.2.2.1 (xr sh k j))) C.1 C.2.1 C.2.2.2.2.2.1 hw.1 k t ((x_W_get hk.1).trans (by rw [x_Eq hk (by omega), Nat.add_sub_cancel])) ht hin hdg (by rw [← hq] at kk; exact kk)
theorem x_inl {i : Int32} {n : Nat} (h : (decide (i < 0) || Nat.ble n i.toNatClampNeg) = false) : vp_in i n := by
  intro q
  rw [Bool.or_eq_false_iff] at h
  rcases q with q | q
  · exact absurd (decide_eq_true q) (by rw [h.1]; decide)
  · exact absurd (Nat.ble_eq.mpr q) (by rw [h.2]; decide)
theorem x_ilt {i : Int32} {n : Nat} (h : vp_in i n) : i.toNatClampNeg < n := Nat.not_le.mp fun q => h (Or.inr q)
end XR
