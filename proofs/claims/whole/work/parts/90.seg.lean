/-! new cells, one behind the other: the constructors -/
def sg_s (g : xG) (b n : Nat) (E : Nat → va_E) (H : Heap) : Prop := H.size = b + n ∧ ∀ i, i < n → va_at g.1 vwCl (b + i, E i) H
def sg_AA (U : State) : Prop := (Cond.arrayOver (.array .int)).before #[] U = true
def sg_ix (vm : Vm) (comp : ClassId) : Option Nat := vm.classes.findIdx? fun (x : Class) => match x.kind with | .array component _ => component == comp | _ => false
def sg_ia (vm : Vm) (c : Nat) : Option Bool := (vm.classes[c]?).map fun (k : Class) => match k.kind with | .array _ ty => decide (ty = FieldType.array .int) && decide (vm.findClass ("[" ++ (FieldType.array .int).toString) = some c) | _ => false
theorem sg_ix_moved {u U : Vm} (hvm : u.Alike U) (comp : ClassId) : sg_ix U comp = sg_ix u comp := by
  have a : sg_ix U.bare comp = sg_ix U comp := va_idx_bare U comp
  have b : sg_ix u.bare comp = sg_ix u comp := va_idx_bare u comp
  rw [← a, ← b]
  first | rw [hvm.bare_eq] | rw [← hvm.bare_eq]
theorem sg_AA.moved {u U : State} (hvm : u.vm.Alike U.vm) (h : sg_AA u) : sg_AA U := by
  unfold sg_AA Cond.before Cond.holds at h ⊢
  simp only [Cond.value, beq_iff_eq] at h ⊢
  cases hc : u.vm.findClass (FieldType.array .int).toString with
  | none => rw [hc] at h; simp at h
  | some comp =>
    rw [hc, Option.bind_some] at h
    have h1 : (sg_ix u.vm comp).bind (sg_ia u.vm) = some true := h
    have f1 : U.vm.findClass (FieldType.array .int).toString = some comp := by rw [hvm.findClass]; exact hc
    rw [f1, Option.bind_some]
    have key : (sg_ix U.vm comp).bind (sg_ia U.vm) = some true := by
      rw [sg_ix_moved hvm]
      cases hx : sg_ix u.vm comp with
      | none => rw [hx] at h1; cases h1
      | some cI =>
        rw [hx, Option.bind_some] at h1
        rw [Option.bind_some]
        unfold sg_ia at h1 ⊢
        cases hk : u.vm.classes[cI]? with
        | none => rw [hk] at h1; cases h1
        | some k =>
          obtain ⟨k', hk', he⟩ := hvm.2.2 _ _ hk
          rw [hk] at h1
          rw [hk', hvm.findClass]
          have hkk : k'.kind = k.kind := by rw [he]
          rw [Option.map_some] at h1 ⊢
          rw [hkk]
          exact h1
    exact key
def sg_X (U : State) : Prop := va_AO "DayFines$Deed" U ∧ va_AO "DayFines$Fact" U ∧ va_AO "DayFines$Judgment" U ∧ va_AO "DayFines$Person" U ∧ va_Nw (.castable "[I" "java/lang/Cloneable") U ∧ sg_AA U ∧ va_Nw (.fieldLinkNest "DayFines$State" 51 "DayFines" "RULE_AT_FIRST" "[I" "DayFines") U
theorem sg_X.warm {s U : State} (hW : s.WarmedH U.vm) (h : sg_X s) : sg_X U := ⟨h.1.moved hW.alike, h.2.1.moved hW.alike, h.2.2.1.moved hW.alike, h.2.2.2.1.moved hW.alike, h.2.2.2.2.1.warmC hW, h.2.2.2.2.2.1.moved hW.alike, h.2.2.2.2.2.2.warmF hW⟩
theorem sg_X.same {s U : State} (hv : s.vm = U.vm) (h : sg_X s) : sg_X U := ⟨h.1.moved (by rw [hv]; exact Vm.Alike.refl _), h.2.1.moved (by rw [hv]; exact Vm.Alike.refl _), h.2.2.1.moved (by rw [hv]; exact Vm.Alike.refl _), h.2.2.2.1.moved (by rw [hv]; exact Vm.Alike.refl _), h.2.2.2.2.1.same rfl hv, h.2.2.2.2.2.1.moved (by rw [hv]; exact Vm.Alike.refl _), h.2.2.2.2.2.2.same rfl hv⟩
/-- the row that is cloned, whole -/
def sg_F (g : xG) (b : Nat) (H : Heap) : Prop := ∃ cell : Cell, H[g.2.2.2 13]? = some cell ∧ cell.cls = g.2.1 0 ∧ cell.slots = (arrV (g.2.1 0) 16 (fun j => .int (x_first j))).slots ∧ (∀ k, cell.vm ≠ .statics k) ∧ cell.vm ≠ .unknown ∧ g.2.2.2 13 < b
theorem sg_F.kept {g : xG} {b b1 : Nat} {H0 H : Heap} {locs : List Loc} (hS : va_S (fun q => b ≤ q) H0 H locs) (hb : b ≤ b1) (h : sg_F g b H0) : sg_F g b1 H := by
  obtain ⟨cell, h1, h2, h3, h4, h5, h6⟩ := h
  exact ⟨cell, (hS.2.1 _ (Array.getElem?_eq_some_iff.mp h1).1 (Nat.not_le.mpr h6)).trans h1, h2, h3, h4, h5, Nat.lt_of_lt_of_le h6 hb⟩
def sg_K (g : xG) (b : Nat) (U : State) : Prop := va_K g.1 vwCl (x_T g) U ∧ x_Ns U ∧ sg_X U ∧ x_Sx g (fun q => b ≤ q) U U.heap ∧ sg_F g b U.heap
theorem sg_K.same {g : xG} {b : Nat} {s U : State} (hh : U.heap = s.heap) (hv : s.vm = U.vm) (h : sg_K g b s) : sg_K g b U := by
  obtain ⟨h1, h2, h3, h4, h5⟩ := h
  refine ⟨va_K.moved (by rw [hv]; exact Vm.Alike.refl _) h1, h2.same hv, h3.same hv, ?_, ?_⟩
  · rw [hh]
    exact h4.same hv
  · rw [hh]
    exact h5
theorem sg_K.warm {g : xG} {b b1 : Nat} {s U : State} {H : Heap} {locs : List Loc} (hU : U.heap = H) (hW : s.WarmedH U.vm) (hS : va_S (fun q => b ≤ q) s.heap H locs) (hb : b ≤ b1) (h : sg_K g b s) : sg_K g b1 U := by
  obtain ⟨h1, h2, h3, h4, h5⟩ := h
  refine ⟨va_K.moved hW.alike h1, h2.warm hW, h3.warm hW, ?_, ?_⟩
  · rw [hU]
    exact h4.warm hW (fun a ha hn => hS.2.1 a ha hn) (fun q hq => Nat.le_trans hb hq)
  · rw [hU]
    exact h5.kept hS hb
def sg_C (g : xG) (b : Nat) (p : Program) (s : State) (m : MethodId) (args : Array Value) (meth : Method) (c : Code) (cc : ByteArray) (nL : Nat) (own : String) : Prop :=
  p.tables.exec = Jvm.exec ∧ c.code = cc ∧ c.maxLocals = nL ∧ s.vm.findClass own = some m.cls ∧ (∀ w ∈ x_tb, w.before args s = true) ∧ sg_K g b s ∧ b ≤ s.heap.size
def sg_w (g : xG) (b n : Nat) (E : Nat → va_E) (s : State) (H : Heap) (locs : List Loc) : Prop := sg_s g b n E H ∧ va_S (fun q => b ≤ q) s.heap H locs
def sg_up (E : Nat → va_E) (k : Nat) (e : va_E) : Nat → va_E := fun i => if i = k then e else E i
theorem sg_w.to {g : xG} {b n : Nat} {E E' : Nat → va_E} {s : State} {H : Heap} {locs : List Loc} (hw : sg_w g b n E s H locs) (h : ∀ i, i < n → E i = E' i) : sg_w g b n E' s H locs := ⟨⟨hw.1.1, fun i hi => by rw [← h i hi]; exact hw.1.2 i hi⟩, hw.2⟩
def sg_q (b n o : Nat) : Nat → Option Nat := fun j => if j < n then some (b + (o + j)) else none
theorem sg_q_0 (b o : Nat) : sg_q b 0 o = fun _ => none := by
  funext j
  exact if_neg (Nat.not_lt_zero j)
theorem sg_q_up (b i o : Nat) : va_up (sg_q b i o) i (some (b + (o + i))) = sg_q b (i + 1) o := by
  funext j
  unfold va_up sg_q
  by_cases h : j = i
  · rw [if_pos h, h, if_pos (by omega)]
  · rw [if_neg h]
    by_cases h2 : j < i
    · rw [if_pos h2, if_pos (by omega)]
    · rw [if_neg h2, if_neg (by omega)]
theorem sg_push {g : xG} {b n : Nat} {E : Nat → va_E} {s : State} {H H1 : Heap} {locs : List Loc} {e : va_E} (hw : sg_w g b n E s H locs) (z1 : H1.size = b + n + 1) (e1 : va_at g.1 vwCl (b + n, e) H1) (o1 : ∀ q : Nat, q < b + n → H1[q]? = H[q]?) : sg_w g b (n + 1) (sg_up E n e) s H1 locs := by
  obtain ⟨⟨z, h⟩, hS⟩ := hw
  refine ⟨⟨by omega, fun i hi => ?_⟩, Nat.le_trans hS.1 (by omega), fun x h1 h2 => (o1 x (by have := hS.1; omega)).trans (hS.2.1 x h1 h2), hS.2.2⟩
  unfold sg_up
  by_cases hn : i = n
  · rw [if_pos hn, hn]; exact e1
  · rw [if_neg hn]
    exact (h i (by omega)).kept (o1 _ (by show b + i < b + n; omega))
theorem sg_set {g : xG} {b n i k : Nat} {E : Nat → va_E} {s : State} {H H1 : Heap} {locs : List Loc} {e : va_E} (hw : sg_w g b n E s H locs) (hi : i < n) (z1 : H1.size = H.size) (e1 : va_at g.1 vwCl (b + i, e) H1) (o1 : ∀ q : Nat, q ≠ b + i → H1[q]? = H[q]?) : sg_w g b n (sg_up E i e) s H1 (locs ++ [⟨b + i, k⟩]) := by
  obtain ⟨⟨z, h⟩, hS⟩ := hw
  refine ⟨⟨by omega, fun j hj => ?_⟩, hS.put z1 o1 (Nat.le_add_right b i)⟩
  unfold sg_up
  by_cases hn : j = i
  · rw [if_pos hn, hn]; exact e1
  · rw [if_neg hn]
    exact (h j hj).kept (o1 _ (by show b + j ≠ b + i; omega))
section SG
variable {p : Program} {l : Launch} {e : Env} {R : Room} {s : State} {m : MethodId} {args : Array Value} {below : List Frame} {meth : Method} {c : Code} {H : Heap} {locs : List Loc} {cells slots : Nat} {Q : State → Prop}
variable {cc : ByteArray} {pc nL : Nat} {ls : Array Slot} {rest : List Value} {own : String} {g : xG} {b n : Nat} {E : Nat → va_E}
theorem sg_newi (C : sg_C g b p s m args meth c cc nL own) (hw : sg_w g b n E s H locs) {v : Int32} {N : Nat} (hA : Cond.arrayClass .int ∈ x_tb) (hn : ¬ v < 0) (hN : v.toNatClampNeg = N) (hbytes : N * 4 ≤ 536870912) (hcells : cells + 1 ≤ R.cells) (hslots : slots + N ≤ R.slots) (hdg : decode cc pc = .ok (.newarray .int, 2))
    (kk : ∀ H1 : Heap, sg_w g b (n + 1) (sg_up E n (.inl (g.2.1 0, N, .inl (fun _ => 0)))) s H1 locs → W p l e R s m args below meth c H1 locs (cells + 1) (slots + N) Q (F0 m (pc + 2) ls (.ref (b + n) :: rest))) : W p l e R s m args below meth c H locs cells slots Q (F0 m pc ls (.int v :: rest)) := by
  refine va_newaK (atype := .int) C.1 C.2.1 (C.2.2.2.2.1 _ hA) rfl hdg rfl hn hN hbytes hcells hslots hw.1.1 fun H1 cA e1 z1 o1 hAr hNm => ?_
  have hc : cA = g.2.1 0 := Option.some.inj (hNm.symm.trans ((C.2.2.2.2.2.1.1.2 0 _ rfl).2))
  subst hc
  exact kk H1 (sg_push hw z1 e1 o1)
theorem sg_newz (C : sg_C g b p s m args meth c cc nL own) (hw : sg_w g b n E s H locs) {v : Int32} {N : Nat} (hA : Cond.arrayClass .boolean ∈ x_tb) (hn : ¬ v < 0) (hN : v.toNatClampNeg = N) (hbytes : N * 4 ≤ 536870912) (hcells : cells + 1 ≤ R.cells) (hslots : slots + N ≤ R.slots) (hdg : decode cc pc = .ok (.newarray .boolean, 2))
    (kk : ∀ H1 : Heap, sg_w g b (n + 1) (sg_up E n (.inl (g.2.1 1, N, .inl (fun _ => 0)))) s H1 locs → W p l e R s m args below meth c H1 locs (cells + 1) (slots + N) Q (F0 m (pc + 2) ls (.ref (b + n) :: rest))) : W p l e R s m args below meth c H locs cells slots Q (F0 m pc ls (.int v :: rest)) := by
  refine va_newaK (atype := .boolean) C.1 C.2.1 (C.2.2.2.2.1 _ hA) rfl hdg rfl hn hN (by show N * 1 ≤ _; omega) hcells hslots hw.1.1 fun H1 cA e1 z1 o1 hAr hNm => ?_
  have hc : cA = g.2.1 1 := Option.some.inj (hNm.symm.trans ((C.2.2.2.2.2.1.1.2 1 _ rfl).2))
  subst hc
  exact kk H1 (sg_push hw z1 e1 o1)
theorem sg_newq (C : sg_C g b p s m args meth c cc nL own) (hw : sg_w g b n E s H locs) {v : Int32} {N t index : Nat} {Cn : String} (hA : Cond.classLink own index Cn ∈ x_tb) (hover : va_AO Cn s) (ht : (x_T g)[t]? = some (g.2.1 t, .object Cn)) (hn : ¬ v < 0) (hN : v.toNatClampNeg = N) (hbytes : N * 4 ≤ 536870912) (hcells : cells + 1 ≤ R.cells) (hslots : slots + N ≤ R.slots) (hdg : decode cc pc = .ok (.anewarray index, 3))
    (kk : ∀ H1 : Heap, sg_w g b (n + 1) (sg_up E n (.inl (g.2.1 t, N, .inr (.inr (.inr (.inr (fun _ => none))))))) s H1 locs → W p l e R s m args below meth c H1 locs (cells + 1) (slots + N) Q (F0 m (pc + 3) ls (.ref (b + n) :: rest))) : W p l e R s m args below meth c H locs cells slots Q (F0 m pc ls (.int v :: rest)) := by
  subst hN
  refine W.anew C.1 C.2.1 C.2.2.2.1 (C.2.2.2.2.1 _ hA) (va_AO.use hover) rfl hdg rfl hn hbytes hcells hslots fun cA kA comp f1 f2 f3 f4 => ?_
  obtain ⟨kA', comp', k1, k2, k3, k4⟩ := (C.2.2.2.2.2.1.1.2 t _ ht).2
  have hc : cA = g.2.1 t := Option.some.inj (f1.symm.trans k4)
  subst hc
  rw [hw.1.1]
  refine kk _ (sg_push hw ?_ ?_ ?_)
  · rw [Array.size_push, hw.1.1]
  · show _ = some (vp_cell _ _)
    rw [vp_cell_q, ← hw.1.1, Array.getElem?_push_size, arrV_new]
    rfl
  · intro q hq
    rw [Array.getElem?_push, if_neg (by rw [hw.1.1]; omega)]
theorem sg_new (C : sg_C g b p s m args meth c cc nL own) (hw : sg_w g b n E s H locs) {ci N index : Nat} {Cn : String} {T : u_T} {ty : Nat → FieldType} {fs : List Value} (hc : vwCl[ci]? = some (Cn, T, N)) (hin : ∀ w ∈ u_ws Cn T N, w ∈ x_tb) (hty : ∀ k, k < N → parseFieldDescriptor (T k).2.2.1 = some (ty k)) (hcl : Cond.classLink own index Cn ∈ x_tb) (hinst : Cond.instantiable Cn N ∈ x_tb) (hini : Cond.initialized Cn ∈ x_tb) (hfs : ∀ j, j < N → defaultValue (ty j) = vp_V fs j) (hcells : cells + 1 ≤ R.cells) (hslots : slots + N ≤ R.slots) (hdg : decode cc pc = .ok (.new index, 3))
    (kk : ∀ H1 : Heap, sg_w g b (n + 1) (sg_up E n (.inr (ci, fs))) s H1 locs → W p l e R s m args below meth c H1 locs (cells + 1) (slots + N) Q (F0 m (pc + 3) ls (.ref (b + n) :: rest))) : W p l e R s m args below meth c H locs cells slots Q (F0 m pc ls rest) := by
  have hts := C.2.2.2.2.1
  have hKn := C.2.2.2.2.2.1.1.1 ci _ hc
  refine W.newcK C.1 C.2.1 C.2.2.2.1 (hts _ hcl) (hts _ hinst) (hts _ hini) rfl hdg hcells hslots hKn.2.1 hw.1.1 fun H1 kC hkC e1 z1 o1 => ?_
  exact kk H1 (sg_push hw z1 ⟨_, hc, (u_born ty hts hin hKn hkC e1 hty).to hfs⟩ o1)
theorem sg_put (C : sg_C g b p s m args meth c cc nL own) (hw : sg_w g b n E s H locs) {i ci j N index : Nat} {Cn : String} {T : u_T} {ty0 : Nat → FieldType} {ty : FieldType} {v : Value} {fs : List Value} (hc : vwCl[ci]? = some (Cn, T, N)) (hin : ∀ w ∈ u_ws Cn T N, w ∈ x_tb) (hty : ∀ k, k < N → parseFieldDescriptor (T k).2.2.1 = some (ty0 k)) (hnm : ∀ a, a < N → ∀ b, b < N → a ≠ b → (T a).2.1 ≠ (T b).2.1) (hj : j < N) (hi : i < n) (he : E i = .inr (ci, fs)) (hl : j < fs.length) (hmn : (T j).2.2.2 = true → meth.name = "<init>") (hdecl : (T j).1 = own) (hd : parseFieldDescriptor (T j).2.2.1 = some ty) (hlink : Cond.fieldLink own index (T j).1 (T j).2.1 (T j).2.2.1 ∈ x_tb) (hn : narrow ty v = v) (hfit : fits ty v = true) (hdg : decode cc pc = .ok (.putfield index, 3))
    (kk : ∀ (H1 : Heap) (locs1 : List Loc), sg_w g b n (sg_up E i (.inr (ci, fs.set j v))) s H1 locs1 → W p l e R s m args below meth c H1 locs1 cells slots Q (F0 m (pc + 3) ls rest)) : W p l e R s m args below meth c H locs cells slots Q (F0 m pc ls (v :: .ref (b + i) :: rest)) := by
  have hts := C.2.2.2.2.1
  have hown := C.2.2.2.1
  have hK := C.2.2.2.2.2.1.1
  have hap := va_apart (own := own) hts hin ty0 hty hnm hK hc
  have hat := hw.1.2 i hi
  rw [he] at hat
  obtain ⟨r, h1, cell, q1, q2, q3, q4⟩ := hat
  have hr : r = (Cn, T, N) := Option.some.inj (h1.symm.trans hc)
  subst hr
  obtain ⟨hS, hfc, kC, hkC, hkind⟩ := hK.1 ci _ hc
  obtain ⟨cf, kf, fi, f, hfd, hsl⟩ := hS j hj
  have hlay := hts _ (hin _ (u_in_lay hj))
  have hst := (u_facts hfc hkC (u_lays hts hin hj) hfd).1
  unfold u_lay at hlay
  have fin : ∀ H' : Heap, H'[b + i]? = some (cell.setSlot f.slot v) → H'.size = H.size → (∀ q, q ≠ b + i → H'[q]? = H[q]?) → W p l e R s m args below meth c H' (locs ++ [⟨b + i, f.slot⟩]) cells slots Q (F0 m (pc + 3) ls rest) := by
    intro H' e1 e2 e3
    rw [hsl] at e1
    exact kk H' _ (sg_set hw hi e2 ⟨_, hc, t_OB.to (V := updV (vp_V fs) j v) ⟨_, e1, q2, q3, t_set q4 hap hj v⟩ (fun a _ => vp_updV_set hl v a)⟩ e3)
  by_cases hfin : (T j).2.2.2 = true
  · rw [if_pos hfin] at hlay
    have hcf : m.cls = cf := by
      obtain ⟨_, _, c', _, _, _, -, -, hf', -, -, -, hown2, -⟩ := Cond.laysFinal_spec hlay
      have e1 : c' = cf := by have := hfd.symm.trans hf'; simp at this; exact this.1.symm
      rw [hdecl] at hown2
      rw [← e1]; exact Option.some.inj (hown.symm.trans hown2)
    have h6 := u_fits hfc hkC hkind (Or.inr hlay) hfd hd hn hfit
    exact W.putFinK C.1 C.2.1 hown (hts _ hlink) hfd hst hcf (hmn hfin) (by rw [q2]; exact h6) q1 q3 (by rw [hsl]; exact k2_hasslot (q4 j hj)) rfl rfl hdg fin
  · rw [if_neg hfin] at hlay
    have h6 := u_store hfc hkC hkind hlay hfd hd hn hfit
    exact W.putK C.1 C.2.1 (f := f) ⟨hown, hts _ hlink, ⟨_, _, _, hfd⟩, hst⟩ (by rw [q2]; exact h6) q1 q3 (by rw [hsl]; exact k2_hasslot (q4 j hj)) rfl rfl hdg fin
theorem sg_geti (C : sg_C g b p s m args meth c cc nL own) (hw : sg_w g b n E s H locs) {i ci j N index : Nat} {Cn : String} {T : u_T} {v : Value} {fs : List Value} (hc : vwCl[ci]? = some (Cn, T, N)) (hin : ∀ w ∈ u_ws Cn T N, w ∈ x_tb) (hj : j < N) (hi : i < n) (he : E i = .inr (ci, fs)) (hv : fs[j]? = some v) (hlink : Cond.fieldLink own index (T j).1 (T j).2.1 (T j).2.2.1 ∈ x_tb) (hdg : decode cc pc = .ok (.getfield index, 3))
    (kk : W p l e R s m args below meth c H locs cells slots Q (F0 m (pc + 3) ls (v :: rest))) : W p l e R s m args below meth c H locs cells slots Q (F0 m pc ls (.ref (b + i) :: rest)) := by
  have hat := hw.1.2 i hi
  rw [he] at hat
  refine va_get (D := g.1) (ws := [(b + i, .inr (ci, fs))]) (tys := x_T g) C.1 C.2.1 C.2.2.2.2.1 hin C.2.2.2.1 C.2.2.2.2.2.1.1 (fun k q hq => ?_) 0 rfl hc j hj (C.2.2.2.2.1 _ hlink) (fun _ h => h) hv hdg kk
  have hz : k < 1 := (List.getElem?_eq_some_iff.mp hq).1
  rw [show k = 0 by omega] at hq
  cases hq
  exact hat
theorem sg_ast (C : sg_C g b p s m args meth c cc nL own) (hw : sg_w g b n E s H locs) {i k t ci N : Nat} {r : vw_C} {vs : List Value} {f : Nat → Option Nat} {x : Int32} (hi : i < n) (he : E i = .inl (g.2.1 t, N, .inr (.inr (.inr (.inr f))))) (ht : (x_T g)[t]? = some (g.2.1 t, .object r.1)) (hk : k < n) (hv : E k = .inr (ci, vs)) (hc : vwCl[ci]? = some r) (hin : vp_in x N) (hdg : decode cc pc = .ok (.aastore, 1))
    (kk : ∀ (H1 : Heap) (locs1 : List Loc), sg_w g b n (sg_up E i (.inl (g.2.1 t, N, .inr (.inr (.inr (.inr (va_up f x.toNatClampNeg (some (b + k))))))))) s H1 locs1 → W p l e R s m args below meth c H1 locs1 cells slots Q (F0 m (pc + 1) ls rest)) : W p l e R s m args below meth c H locs cells slots Q (F0 m pc ls (.ref (b + k) :: .int x :: .ref (b + i) :: rest)) := by
  have hlt : x.toNatClampNeg < N := Nat.not_le.mp fun q => hin (Or.inr q)
  have h0 : ¬ x < 0 := fun q => hin (Or.inl q)
  have hK := C.2.2.2.2.2.1.1
  have ha := hw.1.2 i hi
  rw [he] at ha
  have hb := hw.1.2 k hk
  rw [hv] at hb
  obtain ⟨r', hr', cellV, g1, g2, g3, -⟩ := hb
  have hcls := (hK.1 ci r hc).2
  obtain ⟨kA, comp, k1, k2, k3, -⟩ := (hK.2 t _ ht).2
  have hcomp : comp = g.1.1 ci := Option.some.inj (k3.symm.trans hcls.1)
  subst hcomp
  obtain ⟨kC, hkC, -⟩ := hcls.2
  refine W.aast C.1 C.2.1 ha (fun q h => by cases h) (fun h => by cases h) k1 k2 rfl hkC ⟨h0, by show _ < (arrV _ _ _).slots.size; rw [arrV_size]; exact hlt⟩ g1 (fun q h => by rw [g3] at h; cases h) (by rw [g2]; exact hkC) (by rw [g2]; exact va_assign hcls) rfl rfl hdg fun H1 e1 z oq => ?_
  refine kk H1 _ (sg_set hw hi z ?_ oq)
  show H1[b + i]? = some (vp_cell _ _)
  rw [e1, vp_cell_q, vp_cell_q, arrV_store]
  congr 2
  funext q
  by_cases hq : q = x.toNatClampNeg
  · subst hq
    simp [updV, va_up, va_rf]
  · simp [updV, va_up, hq]
theorem sg_iast (C : sg_C g b p s m args meth c cc nL own) (hw : sg_w g b n E s H locs) {i N : Nat} {f : Nat → Int32} {x v : Int32} (hi : i < n) (he : E i = .inl (g.2.1 0, N, .inl f)) (hin : vp_in x N) (hdg : decode cc pc = .ok (.iastore, 1))
    (kk : ∀ (H1 : Heap) (locs1 : List Loc), sg_w g b n (sg_up E i (.inl (g.2.1 0, N, .inl (upd f x.toNatClampNeg v)))) s H1 locs1 → W p l e R s m args below meth c H1 locs1 cells slots Q (F0 m (pc + 1) ls rest)) : W p l e R s m args below meth c H locs cells slots Q (F0 m pc ls (.int v :: .int x :: .ref (b + i) :: rest)) := by
  have hK := C.2.2.2.2.2.1.1
  have ha := hw.1.2 i hi
  rw [he] at ha
  refine W.iast C.1 C.2.1 ha ((hK.2 0 _ rfl).1 N (fun j => .int (f j))) (fun q => by cases q) (by show ¬ (x < 0 ∨ (arrV _ _ _).slots.size ≤ _); rw [arrV_size]; exact hin) rfl rfl hdg fun H1 e1 z oq => ?_
  refine kk H1 _ (sg_set hw hi z ?_ oq)
  show H1[b + i]? = some (vp_cell _ _)
  rw [e1, vp_cell_i, vp_cell_i, arrV_store]
  congr 2
  funext q
  by_cases hq : q = x.toNatClampNeg
  · subst hq
    simp [updV, upd]
  · simp [updV, upd, hq]
theorem sg_iald (C : sg_C g b p s m args meth c cc nL own) (hw : sg_w g b n E s H locs) {i N : Nat} {f : Nat → Int32} {x : Int32} (hi : i < n) (he : E i = .inl (g.2.1 0, N, .inl f)) (hin : vp_in x N) (hdg : decode cc pc = .ok (.iaload, 1))
    (kk : W p l e R s m args below meth c H locs cells slots Q (F0 m (pc + 1) ls (.int (f x.toNatClampNeg) :: rest))) : W p l e R s m args below meth c H locs cells slots Q (F0 m pc ls (.int x :: .ref (b + i) :: rest)) := by
  have hat := hw.1.2 i hi
  rw [he] at hat
  refine va_iald (D := g.1) (ws := [(b + i, .inl (g.2.1 0, N, .inl f))]) (cl := vwCl) (tys := x_T g) C.1 C.2.1 C.2.2.2.2.2.1.1 (fun k q hq => ?_) 0 0 rfl rfl hin hdg kk
  have hz : k < 1 := (List.getElem?_eq_some_iff.mp hq).1
  rw [show k = 0 by omega] at hq
  cases hq
  exact hat
theorem sg_zast (C : sg_C g b p s m args meth c cc nL own) (hw : sg_w g b n E s H locs) {i N : Nat} {f : Nat → Int32} {x v : Int32} (hi : i < n) (he : E i = .inl (g.2.1 1, N, .inl f)) (hin : vp_in x N) (hz : v = 0 ∨ v = 1) (hdg : decode cc pc = .ok (.bastore, 1))
    (kk : ∀ (H1 : Heap) (locs1 : List Loc), sg_w g b n (sg_up E i (.inl (g.2.1 1, N, .inl (upd f x.toNatClampNeg v)))) s H1 locs1 → W p l e R s m args below meth c H1 locs1 cells slots Q (F0 m (pc + 1) ls rest)) : W p l e R s m args below meth c H locs cells slots Q (F0 m pc ls (.int v :: .int x :: .ref (b + i) :: rest)) := by
  have hK := C.2.2.2.2.2.1.1
  have ha := hw.1.2 i hi
  rw [he] at ha
  refine W.zast C.1 C.2.1 ha ((hK.2 1 _ rfl).1 N (fun j => .int (f j))) (fun q => by cases q) (by show ¬ (x < 0 ∨ (arrV _ _ _).slots.size ≤ _); rw [arrV_size]; exact hin) rfl rfl hdg fun H1 e1 z oq => ?_
  refine kk H1 _ (sg_set hw hi z ?_ oq)
  show H1[b + i]? = some (vp_cell _ _)
  rw [e1, vp_cell_i, vp_cell_i, arrV_store]
  congr 2
  funext q
  by_cases hq : q = x.toNatClampNeg
  · subst hq
    rcases hz with rfl | rfl
    · simp [updV, upd]; try rfl
    · simp [updV, upd]; try rfl
  · simp [updV, upd, hq]
end SG
