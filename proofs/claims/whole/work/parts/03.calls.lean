theorem x_good : GoodIn x_tb x_tb := fun w h => ⟨h, good_of_word (List.mem_filter.mp h).2⟩
theorem x_goodC {y : MethodName} {bc : ByteArray} {mL : Nat} {rt : Option FieldType} (h : Cond.code y bc mL rt ∈ x_tb) : GoodIn x_tb (Cond.code y bc mL rt :: x_tb) := fun w hw => by
  rcases List.mem_cons.mp hw with e | h2
  · rw [e]
    exact x_good _ h
  · exact x_good w h2
/-- a method's start and end -/
def x_pre (g : xG) (sh : Nat) (av : List Value) (M : xM) (sz : Nat) : Array Value → State → Prop := va_Pc av (fun U => U.heap.size = sz ∧ va_P g.1 vwCl (x_W g sh M) U.heap ∧ x_K g sh U)
def x_B (g : xG) (sh : Nat) (M : xM) (t : State) : Prop := va_P g.1 vwCl (x_W g sh M) t.heap
abbrev x_rm (fr lo : Nat) : Room := { frames := fr, cells := 0, slots := 0, locals := lo }
/-- contracts: an int (boolean, char), nothing, a long -/
def x_cI (l : Launch) (g : xG) (sh : Nat) (y : MethodName) (bc : ByteArray) (mL : Nat) (rt : FieldType) (fr lo : Nat) (av : List Value) (M : xM) (post : Int32 → xM → Prop) : Prop := ∀ sz : Nat, Met l y (.code y bc mL (some rt) :: x_tb) (x_rm fr lo) (x_pre g sh av M sz) (va_Qi post (x_B g sh) (x_A g sh sz)) 0 0 (x_A g sh sz)
def x_cV (l : Launch) (g : xG) (sh : Nat) (y : MethodName) (bc : ByteArray) (mL : Nat) (fr lo : Nat) (av : List Value) (M : xM) (post : xM → Prop) : Prop := ∀ sz : Nat, Met l y (.code y bc mL none :: x_tb) (x_rm fr lo) (x_pre g sh av M sz) (va_Qv post (x_B g sh) (x_A g sh sz)) 0 0 (x_A g sh sz)
theorem x_K.warm {g : xG} {sh : Nat} {s U : State} {H : Heap} {locs : List Loc} (hU : U.heap = H) (hW : s.WarmedH U.vm) (hS : va_S (x_A g sh s.heap.size) s.heap H locs) (h : x_K g sh s) : x_K g sh U := by
  obtain ⟨h1, h2, h3, h4⟩ := h
  refine ⟨va_K.moved hW.alike h1, h2.warm hW, h3, ?_⟩
  rw [hU]
  exact h4.warm hW (fun a ha hn => hS.2.1 a ha hn) (x_A_mono hS.1)
theorem x_K.same {g : xG} {sh : Nat} {s U : State} (hh : U.heap = s.heap) (hv : s.vm = U.vm) (h : x_K g sh s) : x_K g sh U := by
  obtain ⟨h1, h2, h3, h4⟩ := h
  refine ⟨va_K.moved (by rw [hv]; exact Vm.Alike.refl _) h1, h2.same hv, h3, ?_⟩
  rw [hh]
  exact h4.same hv
theorem x_blind {g : xG} {sh : Nat} {av : List Value} {M : xM} {sz : Nat} : FrameBlind (x_pre g sh av M sz) := by
  intro a U f mk h
  obtain ⟨h1, h2, h3, h4⟩ := h
  exact ⟨h1, h2, h3, x_K.same (s := U) (U := U.calling f mk a) rfl rfl h4⟩
section XC
variable {p : Program} {l : Launch} {e : Env} {R : Room} {s : State} {m : MethodId} {args : Array Value} {below : List Frame} {meth : Method} {c : Code} {H : Heap} {locs : List Loc} {cells slots : Nat} {Q : State → Prop}
variable {cc : ByteArray} {pc nL : Nat} {ls : Array Slot} {rest : List Value} {own : String} {g : xG} {sh : Nat} {M : xM}
theorem x_at (C : x_C g sh p s m args c cc nL own) (hw : x_w g sh s H locs M) {av : List Value} : ∀ U : State, U.heap = H → s.WarmedH U.vm → x_pre g sh av M H.size av.toArray U := by
  intro U hU hW
  exact ⟨rfl, by rw [hU], by rw [hU]; exact hw.1, x_K.warm hU hW hw.2 C.2.2.2.2.2⟩
variable {y : MethodName} {bc : ByteArray} {mL fr lo idx n : Nat} {rt : FieldType} {As : List Value} {k ci : Nat} {Cn : String} {vc : u_T × Nat}
/-- the words of a call of a method of an object -/
def x_lV (own : String) (idx : Nat) (Cn : String) (y : MethodName) (bc : ByteArray) (mL : Nat) (rt : Option FieldType) (n : Nat) : Prop := Cond.methodLink own idx y ∈ x_tb ∧ Cond.instanceMethod y ∈ x_tb ∧ Cond.selects Cn y y ∈ x_tb ∧ Cond.initialized Cn ∈ x_tb ∧ Cond.code y bc mL rt ∈ x_tb ∧ y.cls = Cn ∧ y.cls ≠ "java/lang/invoke/MethodHandle" ∧ y.cls ≠ "java/lang/invoke/VarHandle" ∧ (parseMethodDescriptor y.desc).map (fun d => d.parameters.length) = some n
/-- of a static one -/
def x_lS (own : String) (idx : Nat) (y : MethodName) (bc : ByteArray) (mL : Nat) (rt : Option FieldType) (n : Nat) : Prop := Cond.methodLink own idx y ∈ x_tb ∧ Cond.static y ∈ x_tb ∧ Cond.initialized y.cls ∈ x_tb ∧ Cond.code y bc mL rt ∈ x_tb ∧ y.cls ≠ "java/lang/invoke/MethodHandle" ∧ y.cls ≠ "java/lang/invoke/VarHandle" ∧ (parseMethodDescriptor y.desc).map (fun d => d.parameters.length) = some n
/-- of a nest mate's static one -/
def x_lN (own : String) (idx : Nat) (y : MethodName) (host : String) (bc : ByteArray) (mL : Nat) (rt : Option FieldType) (n : Nat) : Prop := Cond.methodLinkNest own idx y host ∈ lw_tbl ∧ Cond.static y ∈ x_tb ∧ Cond.initialized y.cls ∈ x_tb ∧ Cond.code y bc mL rt ∈ x_tb ∧ y.cls ≠ "java/lang/invoke/MethodHandle" ∧ y.cls ≠ "java/lang/invoke/VarHandle" ∧ (parseMethodDescriptor y.desc).map (fun d => d.parameters.length) = some n
theorem x_cb (C : x_C g sh p s m args c cc nL own) {rt : Option FieldType} (h1 : Cond.methodLink own idx y ∈ x_tb) (h4 : Cond.initialized y.cls ∈ x_tb) (h5 : Cond.code y bc mL rt ∈ x_tb) (hd : y.cls ≠ "java/lang/invoke/MethodHandle" ∧ y.cls ≠ "java/lang/invoke/VarHandle" ∧ (parseMethodDescriptor y.desc).map (fun d => d.parameters.length) = some n) (hR : fr + 1 ≤ R.frames ∧ 8 + (mL + 11) + lo ≤ R.locals) : CallB R s args own idx y bc mL rt (.code y bc mL rt :: x_tb) (x_rm fr lo) 0 0 n :=
  callB_of (Ts := x_tb) n C.2.2.2.2.1 (x_goodC h5) rfl rfl rfl (C.2.2.2.2.1 _ h4) (C.2.2.2.2.1 _ h1) hd hR
theorem x_cw (C : x_C g sh p s m args c cc nL own) {rt : Option FieldType} (L : x_lV own idx Cn y bc mL rt n) (hR : fr + 1 ≤ R.frames ∧ 8 + (mL + 11) + lo ≤ R.locals) : CallW R s args own Cn idx y bc mL rt (.code y bc mL rt :: x_tb) (x_rm fr lo) 0 0 n := by
  obtain ⟨h1, h2, h3, h4, h5, h6, h7⟩ := L
  exact ⟨x_cb C h1 (by rw [h6]; exact h4) h5 h7 hR, C.2.2.2.2.1 _ h2, C.2.2.2.2.1 _ h3⟩
theorem x_cn (C : x_C g sh p s m args c cc nL own) {rt : Option FieldType} {host : String} (L : x_lN own idx y host bc mL rt n) (hR : fr + 1 ≤ R.frames ∧ 8 + (mL + 11) + lo ≤ R.locals) : va_CN R s args own idx y host bc mL rt (.code y bc mL rt :: x_tb) (x_rm fr lo) 0 0 n ∧ (Cond.static y).before args s = true ∧ True := by
  obtain ⟨h1, h2, h3, h4, h5⟩ := L
  exact ⟨va_cnB (Ts := x_tb) n C.2.2.2.2.1 (x_goodC h4) rfl rfl rfl (C.2.2.2.2.2.2.1 _ _ _ _ h1) (C.2.2.2.2.1 _ h3) h5 hR, C.2.2.2.2.1 _ h2, trivial⟩
theorem x_rcv (C : x_C g sh p s m args c cc nL own) (hw : x_w g sh s H locs M) (hk : x_is sh k ci) (hci : ci < 12) (hc : vwCl[ci]? = some (Cn, vc)) : ∃ cell : Cell, H[g.2.2.1 k]? = some cell ∧ cell.vm.isStatics = false ∧ s.vm.findClass Cn = some cell.cls :=
  va_recv (q := (Cn, vc)) C.2.2.2.2.2.1 hw.1 hc ((x_W_get hk.1).trans (by rw [x_Eo hk hci]))
theorem x_room (C : x_C g sh p s m args c cc nL own) : True := trivial
/-- calls that answer an int -/
theorem x_vI {post : Int32 → xM → Prop} (C : x_C g sh p s m args c cc nL own) (hw : x_w g sh s H locs M) (hl : ls.size = nL) (As rest : List Value) (hM : x_cI l g sh y bc mL rt fr lo (.ref (g.2.2.1 k) :: As) M post) (L : x_lV own idx Cn y bc mL (some rt) n) (hk : x_is sh k ci) (hci : ci < 12) (hc : vwCl[ci]? = some (Cn, vc)) (hR : fr + 1 ≤ R.frames ∧ 8 + (mL + 11) + lo ≤ R.locals) (hn : As.length = n) (hr : (rest.map fun v => v.category).sum ≤ 8) (hcs : cells ≤ R.cells ∧ slots ≤ R.slots) (hdg : decode cc pc = .ok (.invokevirtual idx, 3))
    (kk : ∀ (v : Int32) (N : xM) (H1 : Heap) (locs1 : List Loc), post v N → x_w g sh s H1 locs1 N → W p l e R s m args below meth c H1 locs1 cells slots Q (F0 m (pc + 3) ls (.int v :: rest))) : W p l e R s m args below meth c H locs cells slots Q (F0 m pc ls (As.reverse ++ .ref (g.2.2.1 k) :: rest)) := by
  refine va_calli (va_runV (As := As) (rest := rest) ⟨C.1, C.2.1, C.2.2.1, C.2.2.2.1, C.2.2.2.2.1⟩ (hM H.size) (x_cw C L hR) ⟨x_blind, x_rcv C hw hk hci hc, x_at C hw⟩ rfl hn hl rfl (lv_room hr) hdg hcs) hw.2 (fun q _ h => x_A_mono hw.2.1 q h) (fun q h => x_A_mono hw.2.1 q h) (fun v N t H1 locs1 ht hvm hp hB _ _ hS => ?_)
  exact kk v N H1 locs1 hp ⟨by rw [← ht]; exact hB, hS⟩
theorem x_sI {post : Int32 → xM → Prop} (C : x_C g sh p s m args c cc nL own) (hw : x_w g sh s H locs M) (hl : ls.size = nL) (As rest : List Value) (hM : x_cI l g sh y bc mL rt fr lo As M post) (L : x_lS own idx y bc mL (some rt) n) (hR : fr + 1 ≤ R.frames ∧ 8 + (mL + 11) + lo ≤ R.locals) (hn : As.length = n) (hr : (rest.map fun v => v.category).sum ≤ 8) (hcs : cells ≤ R.cells ∧ slots ≤ R.slots) (hdg : decode cc pc = .ok (.invokestatic idx, 3))
    (kk : ∀ (v : Int32) (N : xM) (H1 : Heap) (locs1 : List Loc), post v N → x_w g sh s H1 locs1 N → W p l e R s m args below meth c H1 locs1 cells slots Q (F0 m (pc + 3) ls (.int v :: rest))) : W p l e R s m args below meth c H locs cells slots Q (F0 m pc ls (As.reverse ++ rest)) := by
  refine va_calli (va_runS (As := As) (rest := rest) ⟨C.1, C.2.1, C.2.2.1, C.2.2.2.1, C.2.2.2.2.1⟩ (hM H.size) ⟨x_cb C L.1 L.2.2.1 L.2.2.2.1 L.2.2.2.2 hR, C.2.2.2.2.1 _ L.2.1⟩ ⟨x_blind, x_at C hw⟩ rfl hn hl rfl (lv_room hr) hdg hcs) hw.2 (fun q _ h => x_A_mono hw.2.1 q h) (fun q h => x_A_mono hw.2.1 q h) (fun v N t H1 locs1 ht hvm hp hB _ _ hS => ?_)
  exact kk v N H1 locs1 hp ⟨by rw [← ht]; exact hB, hS⟩
theorem x_nI {post : Int32 → xM → Prop} {host : String} (C : x_C g sh p s m args c cc nL own) (hw : x_w g sh s H locs M) (hl : ls.size = nL) (As rest : List Value) (hM : x_cI l g sh y bc mL rt fr lo As M post) (L : x_lN own idx y host bc mL (some rt) n) (hR : fr + 1 ≤ R.frames ∧ 8 + (mL + 11) + lo ≤ R.locals) (hn : As.length = n) (hr : (rest.map fun v => v.category).sum ≤ 8) (hcs : cells ≤ R.cells ∧ slots ≤ R.slots) (hdg : decode cc pc = .ok (.invokestatic idx, 3))
    (kk : ∀ (v : Int32) (N : xM) (H1 : Heap) (locs1 : List Loc), post v N → x_w g sh s H1 locs1 N → W p l e R s m args below meth c H1 locs1 cells slots Q (F0 m (pc + 3) ls (.int v :: rest))) : W p l e R s m args below meth c H locs cells slots Q (F0 m pc ls (As.reverse ++ rest)) := by
  refine va_calli (va_runSN (As := As) (rest := rest) ⟨C.1, C.2.1, C.2.2.1, C.2.2.2.1, C.2.2.2.2.1⟩ (hM H.size) (x_cn C L hR) ⟨x_blind, x_at C hw⟩ rfl hn hl rfl (lv_room hr) hdg hcs) hw.2 (fun q _ h => x_A_mono hw.2.1 q h) (fun q h => x_A_mono hw.2.1 q h) (fun v N t H1 locs1 ht hvm hp hB _ _ hS => ?_)
  exact kk v N H1 locs1 hp ⟨by rw [← ht]; exact hB, hS⟩
theorem x_vV {post : xM → Prop} (C : x_C g sh p s m args c cc nL own) (hw : x_w g sh s H locs M) (hl : ls.size = nL) (As rest : List Value) (hM : x_cV l g sh y bc mL fr lo (.ref (g.2.2.1 k) :: As) M post) (L : x_lV own idx Cn y bc mL none n) (hk : x_is sh k ci) (hci : ci < 12) (hc : vwCl[ci]? = some (Cn, vc)) (hR : fr + 1 ≤ R.frames ∧ 8 + (mL + 11) + lo ≤ R.locals) (hn : As.length = n) (hr : (rest.map fun v => v.category).sum ≤ 8) (hcs : cells ≤ R.cells ∧ slots ≤ R.slots) (hdg : decode cc pc = .ok (.invokevirtual idx, 3))
    (kk : ∀ (N : xM) (H1 : Heap) (locs1 : List Loc), post N → x_w g sh s H1 locs1 N → W p l e R s m args below meth c H1 locs1 cells slots Q (F0 m (pc + 3) ls rest)) : W p l e R s m args below meth c H locs cells slots Q (F0 m pc ls (As.reverse ++ .ref (g.2.2.1 k) :: rest)) := by
  refine va_callv (va_runV (As := As) (rest := rest) ⟨C.1, C.2.1, C.2.2.1, C.2.2.2.1, C.2.2.2.2.1⟩ (hM H.size) (x_cw C L hR) ⟨x_blind, x_rcv C hw hk hci hc, x_at C hw⟩ rfl hn hl rfl (lv_room hr) hdg hcs) hw.2 (fun q _ h => x_A_mono hw.2.1 q h) (fun q h => x_A_mono hw.2.1 q h) (fun N t H1 locs1 ht hvm hp hB _ _ hS => ?_)
  exact kk N H1 locs1 hp ⟨by rw [← ht]; exact hB, hS⟩
end XC
/-! the words of the pure functions -/
/-- fuel: 5000, and nobody need count it down -/
noncomputable def x_FU : Nat := Classical.choose (⟨5000, rfl⟩ : ∃ n : Nat, n = 5000)
theorem x_FU_eq : x_FU = 5000 := Classical.choose_spec (⟨5000, rfl⟩ : ∃ n : Nat, n = 5000)
def x_l {α β : Type} (a : α) (k : α → β) : β := k a
def x_b {β : Type} (o : Option (Int32 × xM)) (k : Int32 → xM → Option β) : Option β := match o with
  | none => none
  | some q => k q.1 q.2
def x_v {β : Type} (o : Option xM) (k : xM → Option β) : Option β := match o with
  | none => none
  | some q => k q
def x_g {β : Type} (i : Int32) (n : Nat) (k : Option β) : Option β := if i < 0 ∨ n ≤ i.toNatClampNeg then none else k
def x_d {β : Type} (y : Int32) (k : Option β) : Option β := if y = 0 then none else k
def x_dL {β : Type} (y : Int64) (k : Option β) : Option β := if y = 0 then none else k
def x_z {β : Type} (v : Int32) (k : Option β) : Option β := if v = 0 ∨ v = 1 then k else none
theorem x_lE {α β : Type} {a x : α} {k : α → β} {r : β} (e : x = a) (h : x_l a k = r) : k x = r := by
  subst e
  exact h
theorem x_jE {α β : Type} {a : α} {k : α → β} {r : β} (h : x_l a k = r) : ∃ x, x = a ∧ k x = r := ⟨a, rfl, h⟩
theorem x_bE {β : Type} {o : Option (Int32 × xM)} {k : Int32 → xM → Option β} {r : β} (h : x_b o k = some r) : ∃ v N, o = some (v, N) ∧ k v N = some r := by
  cases o with
  | none => cases h
  | some q => exact ⟨q.1, q.2, rfl, h⟩
theorem x_vE {β : Type} {o : Option xM} {k : xM → Option β} {r : β} (h : x_v o k = some r) : ∃ N, o = some N ∧ k N = some r := by
  cases o with
  | none => cases h
  | some q => exact ⟨q, rfl, h⟩
theorem x_gE {β : Type} {i : Int32} {n : Nat} {k : Option β} {r : β} (h : x_g i n k = some r) : vp_in i n ∧ k = some r := by
  unfold x_g at h
  by_cases c : i < 0 ∨ n ≤ i.toNatClampNeg
  · rw [if_pos c] at h
    cases h
  · rw [if_neg c] at h
    exact ⟨c, h⟩
theorem x_dE {β : Type} {y : Int32} {k : Option β} {r : β} (h : x_d y k = some r) : ¬ y = 0 ∧ k = some r := by
  unfold x_d at h
  by_cases c : y = 0
  · rw [if_pos c] at h
    cases h
  · rw [if_neg c] at h
    exact ⟨c, h⟩
theorem x_dLE {β : Type} {y : Int64} {k : Option β} {r : β} (h : x_dL y k = some r) : ¬ y = 0 ∧ k = some r := by
  unfold x_dL at h
  by_cases c : y = 0
  · rw [if_pos c] at h
    cases h
  · rw [if_neg c] at h
    exact ⟨c, h⟩
theorem x_zE {β : Type} {v : Int32} {k : Option β} {r : β} (h : x_z v k = some r) : (narrow .boolean (.int v) = .int v ∧ fits .boolean (.int v) = true) ∧ k = some r := by
  unfold x_z at h
  by_cases c : v = 0 ∨ v = 1
  · rw [if_pos c] at h
    refine ⟨?_, h⟩
    rcases c with rfl | rfl
    · exact ⟨rfl, rfl⟩
    · exact ⟨rfl, rfl⟩
  · rw [if_neg c] at h
    cases h
theorem x_zl0 {β : Type} (k : Option β) : x_z 0 k = k := if_pos (Or.inl rfl)
theorem x_zl1 {β : Type} (k : Option β) : x_z 1 k = k := if_pos (Or.inr rfl)
theorem x_iP {β : Type} {c : Prop} [Decidable c] {a b r : β} (h : (if c then a else b) = r) (hc : c) : a = r := by rwa [if_pos hc] at h
theorem x_iN {β : Type} {c : Prop} [Decidable c] {a b r : β} (h : (if c then a else b) = r) (hc : ¬ c) : b = r := by rwa [if_neg hc] at h
/-- the starts of the walks -/
theorem x_stI {l : Launch} {g : xG} {sh : Nat} {y : MethodName} {bc : ByteArray} {mL fr lo : Nat} {av : List Value} {M : xM} {r : Int32} {M' : xM} (own : String) (hy : plainName y.cls = true) (hyc : y.cls = own) (hlen : (lg_sl av).length ≤ mL)
    (body : ∀ (p : Program) (e : Env) (s : State) (m : MethodId) (args : Array Value) (below : List Frame) (meth : Method) (c : Code) (Q : State → Prop) (ls : Array Slot), x_C g sh p s m args c bc mL own → x_w g sh s s.heap [] M →
      (∀ {pc : Nat} {H : Heap} {locs : List Loc} {ls : Array Slot} {v : Int32} {N : xM}, some (v, N) = some (r, M') → decode bc pc = .ok (.ireturn, 1) → x_w g sh s H locs N → W p l e (x_rm fr lo) s m args below meth c H locs 0 0 Q (F0 m pc ls [.int v])) →
      lv_has ls mL (lv_args 0 av) → W p l e (x_rm fr lo) s m args below meth c s.heap [] 0 0 Q (F0 m 0 ls [])) :
    x_cI l g sh y bc mL .int fr lo av M (fun v N => v = r ∧ N = M') := by
  intro sz
  refine Met.ofW (cc := bc) (maxL := mL) (ret := some .int) hy rfl ?_
  intro p e s m args below meth c s₁ B hml hv
  obtain ⟨rfl, hsz, hP, hK⟩ := hv
  have hts := atoms_spec (ws := (.code y bc mL (some .int) :: x_tb)) B.pre
  have hown : s.vm.findClass own = some m.cls := by rw [← hyc]; exact findClass_of_methodNamed B.named
  subst hsz
  rw [lg_entry_eq]
  refine body p e s m _ below meth c _ _ ⟨B.exec, B.bytes, hml, hown, fun w h => hts w (List.mem_cons_of_mem _ h), hK⟩ ⟨hP, va_S.rf⟩ ?_ (lv_entry av hlen)
  intro pc H locs ls v N hr hd hw
  cases hr
  exact W.iret B.exec B.bytes B.returns (fun t ht _ => ⟨⟨r, M', rfl, ⟨rfl, rfl⟩, by show va_P _ _ _ t.heap; rw [ht]; exact hw.1⟩, hw.2.F ht⟩) hw.2.2.2 hd B.notSynchronized
theorem x_stZ {l : Launch} {g : xG} {sh : Nat} {y : MethodName} {bc : ByteArray} {mL fr lo : Nat} {av : List Value} {M : xM} {r : Int32} {M' : xM} (own : String) (hy : plainName y.cls = true) (hyc : y.cls = own) (hlen : (lg_sl av).length ≤ mL)
    (body : ∀ (p : Program) (e : Env) (s : State) (m : MethodId) (args : Array Value) (below : List Frame) (meth : Method) (c : Code) (Q : State → Prop) (ls : Array Slot), x_C g sh p s m args c bc mL own → x_w g sh s s.heap [] M →
      (∀ {pc : Nat} {H : Heap} {locs : List Loc} {ls : Array Slot} {v : Int32} {N : xM}, x_z v (some (v, N)) = some (r, M') → decode bc pc = .ok (.ireturn, 1) → x_w g sh s H locs N → W p l e (x_rm fr lo) s m args below meth c H locs 0 0 Q (F0 m pc ls [.int v])) →
      lv_has ls mL (lv_args 0 av) → W p l e (x_rm fr lo) s m args below meth c s.heap [] 0 0 Q (F0 m 0 ls [])) :
    x_cI l g sh y bc mL .boolean fr lo av M (fun v N => v = r ∧ N = M') := by
  intro sz
  refine Met.ofW (cc := bc) (maxL := mL) (ret := some .boolean) hy rfl ?_
  intro p e s m args below meth c s₁ B hml hv
  obtain ⟨rfl, hsz, hP, hK⟩ := hv
  have hts := atoms_spec (ws := (.code y bc mL (some .boolean) :: x_tb)) B.pre
  have hown : s.vm.findClass own = some m.cls := by rw [← hyc]; exact findClass_of_methodNamed B.named
  subst hsz
  rw [lg_entry_eq]
  refine body p e s m _ below meth c _ _ ⟨B.exec, B.bytes, hml, hown, fun w h => hts w (List.mem_cons_of_mem _ h), hK⟩ ⟨hP, va_S.rf⟩ ?_ (lv_entry av hlen)
  intro pc H locs ls v N hz hd hw
  obtain ⟨hn, hr⟩ := x_zE hz
  cases hr
  exact W.zret B.exec B.bytes B.returns hn.1 (fun t ht _ => ⟨⟨r, M', rfl, ⟨rfl, rfl⟩, by show va_P _ _ _ t.heap; rw [ht]; exact hw.1⟩, hw.2.F ht⟩) hw.2.2.2 hd B.notSynchronized
theorem x_stV {l : Launch} {g : xG} {sh : Nat} {y : MethodName} {bc : ByteArray} {mL fr lo : Nat} {av : List Value} {M M' : xM} (own : String) (hy : plainName y.cls = true) (hyc : y.cls = own) (hlen : (lg_sl av).length ≤ mL)
    (body : ∀ (p : Program) (e : Env) (s : State) (m : MethodId) (args : Array Value) (below : List Frame) (meth : Method) (c : Code) (Q : State → Prop) (ls : Array Slot), x_C g sh p s m args c bc mL own → x_w g sh s s.heap [] M →
      (∀ {pc : Nat} {H : Heap} {locs : List Loc} {ls : Array Slot} {N : xM}, some N = some M' → decode bc pc = .ok (.return_, 1) → x_w g sh s H locs N → W p l e (x_rm fr lo) s m args below meth c H locs 0 0 Q (F0 m pc ls [])) →
      lv_has ls mL (lv_args 0 av) → W p l e (x_rm fr lo) s m args below meth c s.heap [] 0 0 Q (F0 m 0 ls [])) :
    x_cV l g sh y bc mL fr lo av M (fun N => N = M') := by
  intro sz
  refine Met.ofW (cc := bc) (maxL := mL) (ret := none) hy rfl ?_
  intro p e s m args below meth c s₁ B hml hv
  obtain ⟨rfl, hsz, hP, hK⟩ := hv
  have hts := atoms_spec (ws := (.code y bc mL none :: x_tb)) B.pre
  have hown : s.vm.findClass own = some m.cls := by rw [← hyc]; exact findClass_of_methodNamed B.named
  subst hsz
  rw [lg_entry_eq]
  refine body p e s m _ below meth c _ _ ⟨B.exec, B.bytes, hml, hown, fun w h => hts w (List.mem_cons_of_mem _ h), hK⟩ ⟨hP, va_S.rf⟩ ?_ (lv_entry av hlen)
  intro pc H locs ls N hr hd hw
  cases hr
  exact W.vret B.exec B.bytes B.returns (fun t ht _ => ⟨⟨M', rfl, rfl, by show va_P _ _ _ t.heap; rw [ht]; exact hw.1⟩, hw.2.F ht⟩) hw.2.2.2 hd B.notSynchronized
