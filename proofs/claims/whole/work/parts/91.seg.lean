/-! a constructor's contract, start and call -/
def sg_pre (g : xG) (b ci : Nat) (fs : List Value) : Array Value → State → Prop := va_Pc [.ref b] (fun U => sg_s g b 1 (fun _ => .inr (ci, fs)) U.heap ∧ sg_K g b U)
abbrev sg_rm (fr lo nc ns : Nat) : Room := { frames := fr, cells := nc, slots := ns, locals := lo }
def sg_c (l : Launch) (g : xG) (y : MethodName) (bc : ByteArray) (mL fr lo nc ns ci : Nat) (fs : List Value) (n : Nat) (E : Nat → Nat → va_E) : Prop :=
  ∀ b : Nat, Met l y (.code y bc mL none :: x_tb) (sg_rm fr lo nc ns) (sg_pre g b ci fs) (va_Qv (fun _ : Unit => True) (fun _ t => sg_s g b n (E b) t.heap) (fun q => b ≤ q)) nc ns (fun q => b ≤ q)
theorem sg_blind {g : xG} {b ci : Nat} {fs : List Value} : FrameBlind (sg_pre g b ci fs) := by
  intro a U f mk h
  obtain ⟨h1, h2, h3⟩ := h
  exact ⟨h1, h2, sg_K.same (s := U) (U := U.calling f mk a) rfl rfl h3⟩
theorem sg_st {l : Launch} {g : xG} {y : MethodName} {bc : ByteArray} {mL fr lo nc ns ci : Nat} {fs : List Value} {n : Nat} {E : Nat → Nat → va_E} (own : String) (hy : plainName y.cls = true) (hyc : y.cls = own) (hyn : y.name = "<init>") (hlen : 1 ≤ mL)
    (body : ∀ (b : Nat) (p : Program) (e : Env) (s : State) (m : MethodId) (args : Array Value) (below : List Frame) (meth : Method) (c : Code) (Q : State → Prop) (ls : Array Slot), sg_C g b p s m args meth c bc mL own → meth.name = "<init>" → sg_w g b 1 (fun _ => .inr (ci, fs)) s s.heap [] →
      (∀ {pc : Nat} {H : Heap} {locs : List Loc} {ls : Array Slot} {E' : Nat → va_E}, (∀ i, i < n → E' i = E b i) → decode bc pc = .ok (.return_, 1) → sg_w g b n E' s H locs → W p l e (sg_rm fr lo nc ns) s m args below meth c H locs nc ns Q (F0 m pc ls [])) →
      lv_has ls mL [(0, .ref b)] → W p l e (sg_rm fr lo nc ns) s m args below meth c s.heap [] 0 0 Q (F0 m 0 ls [])) :
    sg_c l g y bc mL fr lo nc ns ci fs n E := by
  intro b
  refine Met.ofW (cc := bc) (maxL := mL) (ret := none) hy rfl ?_
  intro p e s m args below meth c s₁ B hml hv
  obtain ⟨rfl, hs, hK⟩ := hv
  have hts := atoms_spec (ws := (.code y bc mL none :: x_tb)) B.pre
  have hown : s.vm.findClass own = some m.cls := by rw [← hyc]; exact findClass_of_methodNamed B.named
  have hmn : meth.name = "<init>" := ((name_of_methodNamed B.named B.method).1).trans hyn
  rw [lg_entry_eq]
  refine body b p e s m _ below meth c _ _ ⟨B.exec, B.bytes, hml, hown, fun w h => hts w (List.mem_cons_of_mem _ h), hK, by rw [hs.1]; omega⟩ hmn ⟨hs, va_S.rf⟩ ?_ (lv_entry [.ref b] hlen)
  intro pc H locs ls E' hE hd hw
  exact W.vret B.exec B.bytes B.returns (fun t ht _ => ⟨⟨(), rfl, trivial, by show sg_s g b n (E b) t.heap; rw [ht]; exact ⟨hw.1.1, fun i hi => by rw [← hE i hi]; exact hw.1.2 i hi⟩⟩, hw.2.F ht⟩) hw.2.2.2 hd B.notSynchronized
def sg_jn (E : Nat → va_E) (n : Nat) (E1 : Nat → va_E) : Nat → va_E := fun i => if i < n then E i else E1 (i - n)
theorem sg_jn_lt {E E1 : Nat → va_E} {n i : Nat} (h : i < n) : sg_jn E n E1 i = E i := if_pos h
theorem sg_jn_ge {E E1 : Nat → va_E} {n i : Nat} (h : ¬ i < n) : sg_jn E n E1 i = E1 (i - n) := if_neg h
theorem sg_up_ne {E : Nat → va_E} {k i : Nat} {e : va_E} (h : ¬ i = k) : sg_up E k e i = E i := if_neg h
theorem sg_join {g : xG} {b n n1 : Nat} {E E1 : Nat → va_E} {s : State} {H H1 : Heap} {locs locs1 : List Loc} (hw : sg_w g b (n + 1) E s H locs) (h1 : sg_s g (b + n) n1 E1 H1) (hk : ∀ q : Nat, q < H.size → ¬ (b + n ≤ q) → H1[q]? = H[q]?) (hS : va_S (fun q => b ≤ q) s.heap H1 locs1) : sg_w g b (n + n1) (sg_jn E n E1) s H1 locs1 := by
  refine ⟨⟨by rw [h1.1]; omega, fun i hi => ?_⟩, hS⟩
  unfold sg_jn
  by_cases h : i < n
  · rw [if_pos h]
    exact (hw.1.2 i (by omega)).kept (hk _ (by show b + i < _; rw [hw.1.1]; omega) (by show ¬ b + n ≤ b + i; omega))
  · rw [if_neg h]
    have h2 := h1.2 (i - n) (by omega)
    rwa [show b + n + (i - n) = b + i by omega] at h2
def sg_lN (own : String) (idx : Nat) (y : MethodName) (host : String) (bc : ByteArray) (mL : Nat) : Prop := Cond.methodLinkNest own idx y host ∈ lw_tbl ∧ Cond.instanceMethod y ∈ x_tb ∧ Cond.initialized y.cls ∈ x_tb ∧ Cond.code y bc mL none ∈ x_tb ∧ y.name = "<init>" ∧ y.cls ≠ "java/lang/invoke/MethodHandle" ∧ y.cls ≠ "java/lang/invoke/VarHandle" ∧ (parseMethodDescriptor y.desc).map (fun d => d.parameters.length) = some 0
def sg_lI (own : String) (idx : Nat) (y : MethodName) (bc : ByteArray) (mL : Nat) : Prop := Cond.methodLink own idx y ∈ x_tb ∧ Cond.instanceMethod y ∈ x_tb ∧ Cond.initialized y.cls ∈ x_tb ∧ Cond.code y bc mL none ∈ x_tb ∧ y.name = "<init>" ∧ y.cls ≠ "java/lang/invoke/MethodHandle" ∧ y.cls ≠ "java/lang/invoke/VarHandle" ∧ (parseMethodDescriptor y.desc).map (fun d => d.parameters.length) = some 0
def sg_lO (own : String) (idx : Nat) : Prop := Cond.methodLink own idx objectInit ∈ x_tb ∧ Cond.instanceMethod objectInit ∈ x_tb ∧ Cond.code objectInit ⟨#[0xb1]⟩ 1 none ∈ x_tb
section SH
variable {p : Program} {l : Launch} {e : Env} {R : Room} {s : State} {m : MethodId} {args : Array Value} {below : List Frame} {meth : Method} {c : Code} {H : Heap} {locs : List Loc} {cells slots : Nat} {Q : State → Prop}
variable {cc : ByteArray} {pc nL : Nat} {ls : Array Slot} {own : String} {g : xG} {b n : Nat} {E : Nat → va_E}
theorem sg_obj (C : sg_C g b p s m args meth c cc nL own) (hl : ls.size = nL) {idx a : Nat} {rest : List Value} (L : sg_lO own idx) (hfr : 1 ≤ R.frames) (hlo : (rest.map fun v => v.category).sum + 12 ≤ R.locals) (hdg : decode cc pc = .ok (.invokespecial idx, 3))
    (kk : W p l e R s m args below meth c H locs cells slots Q (F0 m (pc + 3) ls rest)) : W p l e R s m args below meth c H locs cells slots Q (F0 m pc ls (.ref a :: rest)) :=
  W.objInit C.1 C.2.1 C.2.2.2.1 (C.2.2.2.2.1 _ L.1) (C.2.2.2.2.1 _ L.2.1) (C.2.2.2.2.1 _ L.2.2) rfl (by rw [C.2.2.1]; exact hl) rfl hdg hfr (by show 2 * 0 + _ + 12 ≤ _; omega) kk
theorem sg_iN {y : MethodName} {bc : ByteArray} {mL fr lo nc ns ci n1 idx : Nat} {fs : List Value} {E1 : Nat → Nat → va_E} {host : String} (C : sg_C g b p s m args meth c cc nL own) (hw : sg_w g b (n + 1) E s H locs) (hl : ls.size = nL) (rest : List Value) (he : E n = .inr (ci, fs)) (hM : sg_c l g y bc mL fr lo nc ns ci fs n1 E1) (L : sg_lN own idx y host bc mL) (hR : fr + 1 ≤ R.frames ∧ 8 + (mL + 11) + lo ≤ R.locals) (hr : (rest.map fun v => v.category).sum ≤ 8) (hcs : cells + nc ≤ R.cells ∧ slots + ns ≤ R.slots) (hdg : decode cc pc = .ok (.invokespecial idx, 3))
    (kk : ∀ (H1 : Heap) (locs1 : List Loc), sg_w g b (n + n1) (sg_jn E n (E1 (b + n))) s H1 locs1 → W p l e R s m args below meth c H1 locs1 (cells + nc) (slots + ns) Q (F0 m (pc + 3) ls rest)) : W p l e R s m args below meth c H locs cells slots Q (F0 m pc ls (.ref (b + n) :: rest)) := by
  obtain ⟨h1, h2, h3, h4, h5, h6⟩ := L
  have hts := C.2.2.2.2.1
  refine va_callv (A0 := fun q => b ≤ q) (va_runIN (As := []) (rest := rest) ⟨C.1, C.2.1, C.2.2.1, C.2.2.2.1, hts⟩ (hM (b + n)) ⟨va_cnB (Ts := x_tb) 0 hts (x_goodC h4) rfl rfl rfl (C.2.2.2.2.2.1.2.1 _ _ _ _ h1) (hts _ h3) h6 hR, h5, hts _ h2⟩ ⟨sg_blind, fun U hU hW => ⟨rfl, ?_, ?_⟩⟩ rfl rfl hl rfl (lv_room hr) hdg hcs) hw.2 (fun q _ h => Nat.le_trans (Nat.le_add_right b n) h) (fun q h => Nat.le_trans (Nat.le_add_right b n) h) (fun u t H1 locs1 ht hvm hp hB _ hk hS => ?_)
  · rw [hU]
    refine ⟨by rw [hw.1.1]; omega, fun i hi => ?_⟩
    rw [show i = 0 by omega]
    have h9 := hw.1.2 n (by omega)
    rw [he] at h9
    exact h9
  · exact sg_K.warm hU hW hw.2 (Nat.le_add_right b n) C.2.2.2.2.2.1
  · exact kk H1 locs1 (sg_join hw (by rw [← ht]; exact hB) hk hS)
theorem sg_iI {y : MethodName} {bc : ByteArray} {mL fr lo nc ns ci n1 idx : Nat} {fs : List Value} {E1 : Nat → Nat → va_E} (C : sg_C g b p s m args meth c cc nL own) (hw : sg_w g b (n + 1) E s H locs) (hl : ls.size = nL) (rest : List Value) (he : E n = .inr (ci, fs)) (hM : sg_c l g y bc mL fr lo nc ns ci fs n1 E1) (L : sg_lI own idx y bc mL) (hR : fr + 1 ≤ R.frames ∧ 8 + (mL + 11) + lo ≤ R.locals) (hr : (rest.map fun v => v.category).sum ≤ 8) (hcs : cells + nc ≤ R.cells ∧ slots + ns ≤ R.slots) (hdg : decode cc pc = .ok (.invokespecial idx, 3))
    (kk : ∀ (H1 : Heap) (locs1 : List Loc), sg_w g b (n + n1) (sg_jn E n (E1 (b + n))) s H1 locs1 → W p l e R s m args below meth c H1 locs1 (cells + nc) (slots + ns) Q (F0 m (pc + 3) ls rest)) : W p l e R s m args below meth c H locs cells slots Q (F0 m pc ls (.ref (b + n) :: rest)) := by
  obtain ⟨h1, h2, h3, h4, h5, h6⟩ := L
  have hts := C.2.2.2.2.1
  refine va_callv (A0 := fun q => b ≤ q) (va_runI (As := []) (rest := rest) ⟨C.1, C.2.1, C.2.2.1, C.2.2.2.1, hts⟩ (hM (b + n)) (cwI 0 hts (x_goodC h4) rfl rfl rfl (hts _ h3) (hts _ h1) (hts _ h2) h5 h6 hR) ⟨sg_blind, fun U hU hW => ⟨rfl, ?_, ?_⟩⟩ rfl rfl hl rfl (lv_room hr) hdg hcs) hw.2 (fun q _ h => Nat.le_trans (Nat.le_add_right b n) h) (fun q h => Nat.le_trans (Nat.le_add_right b n) h) (fun u t H1 locs1 ht hvm hp hB _ hk hS => ?_)
  · rw [hU]
    refine ⟨by rw [hw.1.1]; omega, fun i hi => ?_⟩
    rw [show i = 0 by omega]
    have h9 := hw.1.2 n (by omega)
    rw [he] at h9
    exact h9
  · exact sg_K.warm hU hW hw.2 (Nat.le_add_right b n) C.2.2.2.2.2.1
  · exact kk H1 locs1 (sg_join hw (by rw [← ht]; exact hB) hk hS)
/-- new int[n][k] -/
theorem sg_multi (C : sg_C g b p s m args meth c cc nL own) (hw : sg_w g b n E s H locs) {idx N K : Nat} {v w : Int32} {rest : List Value} (hA : Cond.arrayClass .int ∈ x_tb) (hL : Cond.classLink own idx ("[" ++ (FieldType.array .int).toString) ∈ x_tb) (hv : ¬ v < 0) (hk : ¬ w < 0) (hN : v.toNatClampNeg = N) (hK : w.toNatClampNeg = K) (hb1 : N * 4 ≤ 536870912) (hb2 : K * 4 ≤ 536870912) (hcells : cells + (1 + N) ≤ R.cells) (hslots : slots + (N + N * K) ≤ R.slots) (hdg : decode cc pc = .ok (.multianewarray idx 2, 4))
    (kk : ∀ H1 : Heap, sg_w g b (n + (1 + N)) (sg_jn E n (fun i => if i = 0 then .inl (g.2.1 6, N, .inr (.inr (.inr (.inr (fun j => if j < N then some (b + n + 1 + j) else none))))) else .inl (g.2.1 0, K, .inl (fun _ => 0)))) s H1 locs → W p l e R s m args below meth c H1 locs (cells + 1 + N) (slots + N + N * K) Q (F0 m (pc + 4) ls (.ref (b + n) :: rest))) : W p l e R s m args below meth c H locs cells slots Q (F0 m pc ls (.int w :: .int v :: rest)) := by
  subst hN
  subst hK
  intro T hT Xs
  obtain ⟨vm₁, cA, comp, -, fA, fC, hO, -, X', step⟩ := Xs.multianewarray2F C.1 C.2.2.2.1 (C.2.2.2.2.1 _ hL) (show (Cond.arrayOver (.array .int)).before args s = true from C.2.2.2.2.2.1.2.2.1.2.2.2.2.2.1) (C.2.2.2.2.1 _ hA) (g := F0 m pc ls (.int w :: .int v :: rest)) rfl (by rw [C.2.1]; exact hdg) rfl hv hk hb1 hb2 (by omega) rfl rfl hcells hslots
  have e0 : comp = g.2.1 0 := Option.some.inj (fC.symm.trans (C.2.2.2.2.2.1.1.2 0 _ rfl).2)
  have e6 : cA = g.2.1 6 := Option.some.inj (fA.symm.trans (C.2.2.2.2.2.1.1.2 6 _ rfl).2)
  subst e0
  subst e6
  generalize hF : Jvm.Free.Multi.fill (T.setVm vm₁) (g.2.1 6) (g.2.1 0) v.toNatClampNeg w.toNatClampNeg (defaultValue .int) v.toNatClampNeg = F at X' step
  have hTh : (T.setVm vm₁).heap = H := hT
  obtain ⟨f1, f2, -, -⟩ := Jvm.Free.Multi.fill_facts (T.setVm vm₁) (g.2.1 6) (g.2.1 0) v.toNatClampNeg w.toNatClampNeg (defaultValue .int) v.toNatClampNeg
  rw [hF, hTh] at f1 f2
  have hold : ∀ x : Nat, x < H.size → F.heap[x]? = H[x]? := fun x hx => by
    have := Jvm.Free.Multi.fill_old (T.setVm vm₁) (g.2.1 6) (g.2.1 0) v.toNatClampNeg w.toNatClampNeg (defaultValue .int) (a := x) (by rw [hTh]; exact hx) v.toNatClampNeg
    rw [hF, hTh] at this
    exact this
  have hrow : ∀ j : Nat, j < v.toNatClampNeg → F.heap[H.size + 1 + j]? = some (vp_cell (g.2.1 0) (w.toNatClampNeg, .inl (fun _ => 0))) := fun j hj => by
    have := Jvm.Free.Multi.fill_inner (T.setVm vm₁) (g.2.1 6) (g.2.1 0) v.toNatClampNeg w.toNatClampNeg (defaultValue .int) v.toNatClampNeg j hj
    rw [hF, hTh] at this
    rw [this, vp_cell_i, ← arrV_new]
    rfl
  have hout : Jvm.Free.Multi.outerC (g.2.1 6) v.toNatClampNeg H.size v.toNatClampNeg = vp_cell (g.2.1 6) (v.toNatClampNeg, .inr (.inr (.inr (.inr (fun i => if i < v.toNatClampNeg then some (H.size + 1 + i) else none))))) := by
    rw [vp_cell_q]
    exact vr_outer (g.2.1 6) v.toNatClampNeg H.size v.toNatClampNeg
  rw [hout] at f2
  have hz := hw.1.1
  have key : sg_w g b (n + (1 + v.toNatClampNeg)) (sg_jn E n (fun i => if i = 0 then .inl (g.2.1 6, v.toNatClampNeg, .inr (.inr (.inr (.inr (fun j => if j < v.toNatClampNeg then some (b + n + 1 + j) else none))))) else .inl (g.2.1 0, w.toNatClampNeg, .inl (fun _ => 0)))) s F.heap locs := by
    refine ⟨⟨by rw [f1, hz]; omega, fun i hi => ?_⟩, ⟨Nat.le_trans hw.2.1 (by rw [f1]; omega), fun x h1 h2 => (hold x (Nat.lt_of_lt_of_le h1 hw.2.1)).trans (hw.2.2.1 x h1 h2), hw.2.2.2⟩⟩
    unfold sg_jn
    by_cases h : i < n
    · rw [if_pos h]
      exact (hw.1.2 i h).kept (hold _ (by show b + i < _; omega))
    · rw [if_neg h]
      dsimp only
      by_cases h0 : i - n = 0
      · rw [if_pos h0, show b + i = H.size by omega]
        show F.heap[H.size]? = some (vp_cell _ _)
        rw [f2, hz]
      · rw [if_neg h0]
        have := hrow (i - n - 1) (by omega)
        rw [show H.size + 1 + (i - n - 1) = b + i by omega] at this
        exact this
  obtain ⟨t, a1, b1⟩ := kk F.heap key F rfl X'
  exact ⟨t, step t (by rw [hT, hz]; exact a1), b1⟩
/-- a clone of the row of first rules -/
theorem sg_clone (C : sg_C g b p s m args meth c cc nL own) (hw : sg_w g b n E s H locs) (hl : ls.size = nL) {idx : Nat} {rest : List Value} (h1 : Cond.methodLink own idx ⟨"[I", "clone", "()Ljava/lang/Object;"⟩ ∈ x_tb) (h2 : Cond.sameMethod "[I" "java/lang/Object" "clone" "()Ljava/lang/Object;" ∈ x_tb) (h3 : Cond.native ⟨"java/lang/Object", "clone", "()Ljava/lang/Object;"⟩ ∈ x_tb) (h4 : Cond.instanceMethod ⟨"java/lang/Object", "clone", "()Ljava/lang/Object;"⟩ ∈ x_tb) (h5 : Cond.selects "[I" ⟨"[I", "clone", "()Ljava/lang/Object;"⟩ ⟨"java/lang/Object", "clone", "()Ljava/lang/Object;"⟩ ∈ x_tb) (hframes : 1 ≤ R.frames) (hlocals : (rest.map fun v => v.category).sum + 14 ≤ R.locals) (hcells : cells + 1 ≤ R.cells) (hslots : slots + 16 ≤ R.slots) (hdg : decode cc pc = .ok (.invokevirtual idx, 3))
    (kk : ∀ H1 : Heap, sg_w g b (n + 1) (sg_up E n (.inl (g.2.1 0, 16, .inl x_first))) s H1 locs → W p l e R s m args below meth c H1 locs (cells + 1) (slots + 16) Q (F0 m (pc + 3) ls (.ref (b + n) :: rest))) : W p l e R s m args below meth c H locs cells slots Q (F0 m pc ls (.ref (g.2.2.2 13) :: rest)) := by
  have hts := C.2.2.2.2.1
  have hK := C.2.2.2.2.2.1.1
  obtain ⟨cell, c1, c2, c3, c4, c5, c6⟩ := C.2.2.2.2.2.1.2.2.2.2.kept hw.2 (Nat.le_refl b)
  have hnm : s.vm.findClass "[I" = some (g.2.1 0) := (hK.2 0 _ rfl).2
  obtain ⟨c0, t0', f1, f2, f3⟩ := Cond.castable_spec (va_Nw.use (A := args) rfl C.2.2.2.2.2.1.2.2.1.2.2.2.2.1)
  cases hnm.symm.trans f1
  have hsz : cell.slots.size = 16 := by rw [c3]; exact arrV_size _ _ _
  intro T hT X
  have hcellT : T.heap[g.2.2.2 13]? = some cell := by rw [hT]; exact c1
  obtain ⟨-, kA, hkA, comp, hkind⟩ := State.isArrayOf_alike X.warmed.alike ((hK.2 0 _ rfl).1 0 (fun _ => .null))
  obtain ⟨-, kS, hkS, compS, hkindS⟩ := (hK.2 0 _ rfl).1 0 (fun _ => .null)
  obtain ⟨vm', X', st⟩ := X.cloneArray C.1 C.2.2.2.1 (hts _ h1) (hts _ h2) (hts _ h3) (hts _ h4) (hts _ h5) (a := g.2.2.2 13) (cell := cell) hcellT c4 c5 (by rw [c2]; exact hnm) f2 (by rw [c2]; exact f3)
    (fun i v hv => by
      rw [c2]
      have hk' : T.vm.classes[g.2.1 0]? = some kA := hkA
      have hfit : fits .int v = true := by
        rw [c3] at hv
        by_cases hi : i < 16
        · rw [arrV_read _ _ hi] at hv
          cases hv
          rfl
        · rw [Array.getElem?_eq_none (by rw [arrV_size]; omega)] at hv
          cases hv
      simpa [State.fitsSlot, State.slotType?, hk', hkind] using hfit)
    (g := F0 m pc ls (.ref (g.2.2.2 13) :: rest)) rfl (by rw [C.2.2.1]; exact hl) rfl (by rw [C.2.1]; exact hdg) hframes (by show 2 * 0 + _ + 14 ≤ _; omega) hcells (by rw [hsz]; exact hslots) (hloader := by rw [c2]; exact Vm.clonesLoader_of_array hkS hkindS)
  have hcellE : ({ cls := cell.cls, slots := cell.slots } : Cell) = vp_cell (g.2.1 0) (16, .inl x_first) := by rw [c2, c3]; rfl
  rw [hcellE, hsz] at X'
  have hz := hw.1.1
  generalize hH1 : H.push (vp_cell (g.2.1 0) (16, .inl x_first)) = H1
  have z1 : H1.size = b + n + 1 := by rw [← hH1, Array.size_push, hz]
  have e1 : H1[b + n]? = some (vp_cell (g.2.1 0) (16, .inl x_first)) := by rw [← hH1, ← hz, Array.getElem?_push_size]
  have o1 : ∀ q : Nat, q < b + n → H1[q]? = H[q]? := fun q hq => by rw [← hH1, Array.getElem?_push, if_neg (by omega)]
  obtain ⟨t, b1, b2⟩ := kk H1 (sg_push hw z1 e1 o1) ((T.setVm vm').pushCell (vp_cell (g.2.1 0) (16, .inl x_first))) (by rw [← hH1, ← hT]; rfl) X'
  refine ⟨t, st t ?_, b2⟩
  rw [hcellE, hT, hz]
  exact b1
theorem sg_cast (C : sg_C g b p s m args meth c cc nL own) (hw : sg_w g b n E s H locs) {idx i : Nat} {x : vp_A} {rest : List Value} (hL : Cond.classLink own idx "[I" ∈ x_tb) (hi : i < n) (he : E i = .inl (g.2.1 0, x)) (hdg : decode cc pc = .ok (.checkcast idx, 3))
    (kk : W p l e R s m args below meth c H locs cells slots Q (F0 m (pc + 3) ls (.ref (b + i) :: rest))) : W p l e R s m args below meth c H locs cells slots Q (F0 m pc ls (.ref (b + i) :: rest)) := by
  have hat := hw.1.2 i hi
  rw [he] at hat
  refine va_castA (D := g.1) (cl := vwCl) (ws := [(b + i, .inl (g.2.1 0, x))]) C.1 C.2.1 C.2.2.2.1 (C.2.2.2.2.1 _ hL) (fun k q hq => ?_) 0 rfl (C.2.2.2.2.2.1.1.2 0 _ rfl).2 hdg kk
  have hz : k < 1 := (List.getElem?_eq_some_iff.mp hq).1
  rw [show k = 0 by omega] at hq
  cases hq
  exact hat
end SH
