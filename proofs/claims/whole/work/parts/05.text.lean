/-! texts: their lengths, letters, where a letter stands -/
def xs_n (i : Nat) : Nat := x_len.getD i 0
noncomputable def xs_len (i : Nat) : Int32 := nI (xs_n i)
def xs_b (i j : Nat) : Int32 := (x_byt.getD i []).getD j 0
def xs_f (c : Int32) : List Int32 → Nat → Int32
  | [], _ => -1
  | b :: l, k => if b = c then nI k else xs_f c l (k + 1)
def xs_ix (i : Nat) (c : Int32) : Int32 := xs_f c (x_byt.getD i []) 0
def xs_hd (a : Int32) : Nat := if a = 0 then 0 else if a = 1 then 1 else 2
def xs_nm (a : Int32) : Nat := if a = 0 then 3 else if a = 1 then 4 else 5
theorem xs_hd_lt (a : Int32) : xs_hd a < 6 := by
  unfold xs_hd
  split
  · decide
  · split <;> decide
theorem xs_nm_lt (a : Int32) : xs_nm a < 6 := by
  unfold xs_nm
  split
  · decide
  · split <;> decide
theorem xs_ok : ∀ i, i < 6 → (x_byt.getD i []).length = xs_n i ∧ xs_n i ≤ 6 ∧ 0 < xs_n i ∧ ∀ j, j < xs_n i → (((xs_b i j &&& 255).toUInt32 % 65536).toInt32 = xs_b i j ∧ narrow .char (.int (xs_b i j)) = .int (xs_b i j)) := by decide +kernel
theorem xs_i8 : ∀ i, i < 6 → ∀ j, j < xs_n i → ∀ n, n < 256 → (xs_b i j = (nI n).toInt8.toInt32 ↔ xs_b i j = nI n) := by decide +kernel
theorem xs_pos : ∀ i, i < 6 → ∀ j, j < xs_n i → 0 ≤ xs_b i j ∧ xs_b i j ≤ 255 := by decide +kernel
/-- starts of walks: an answer of any small kind; a text -/
theorem x_stN {l : Launch} {g : xG} {sh : Nat} {y : MethodName} {bc : ByteArray} {mL fr lo : Nat} {ty : FieldType} {av : List Value} {M : xM} {r : Int32} {M' : xM} (own : String) (hy : plainName y.cls = true) (hyc : y.cls = own) (hlen : (lg_sl av).length ≤ mL)
    (body : ∀ (p : Program) (e : Env) (s : State) (m : MethodId) (args : Array Value) (below : List Frame) (meth : Method) (c : Code) (Q : State → Prop) (ls : Array Slot), x_C g sh p s m args c bc mL own → x_w g sh s s.heap [] M →
      (∀ {pc : Nat} {H : Heap} {locs : List Loc} {ls : Array Slot} {v : Int32} {N : xM}, narrow ty (.int v) = .int v → v = r ∧ N = M' → decode bc pc = .ok (.ireturn, 1) → x_w g sh s H locs N → W p l e (x_rm fr lo) s m args below meth c H locs 0 0 Q (F0 m pc ls [.int v])) →
      lv_has ls mL (lv_args 0 av) → W p l e (x_rm fr lo) s m args below meth c s.heap [] 0 0 Q (F0 m 0 ls [])) :
    x_cI l g sh y bc mL ty fr lo av M (fun v N => v = r ∧ N = M') := by
  intro sz
  refine Met.ofW (cc := bc) (maxL := mL) (ret := some ty) hy rfl ?_
  intro p e s m args below meth c s₁ B hml hv
  obtain ⟨rfl, hsz, hP, hK⟩ := hv
  have hts := atoms_spec (ws := (.code y bc mL (some ty) :: x_tb)) B.pre
  have hown : s.vm.findClass own = some m.cls := by rw [← hyc]; exact findClass_of_methodNamed B.named
  subst hsz
  rw [lg_entry_eq]
  refine body p e s m _ below meth c _ _ ⟨B.exec, B.bytes, hml, hown, fun w h => hts w (List.mem_cons_of_mem _ h), hK⟩ ⟨hP, va_S.rf⟩ ?_ (lv_entry av hlen)
  intro pc H locs ls v N hn hr hd hw
  obtain ⟨rfl, rfl⟩ := hr
  exact W.zret B.exec B.bytes B.returns hn (fun t ht _ => ⟨⟨v, N, rfl, ⟨rfl, rfl⟩, by show va_P _ _ _ t.heap; rw [ht]; exact hw.1⟩, hw.2.F ht⟩) hw.2.2.2 hd B.notSynchronized
/-- a contract: a text, nothing changed -/
def x_cR (l : Launch) (g : xG) (sh : Nat) (y : MethodName) (bc : ByteArray) (mL : Nat) (rt : FieldType) (fr lo : Nat) (av : List Value) (M : xM) (a : Nat) : Prop := ∀ sz : Nat, Met l y (.code y bc mL (some rt) :: x_tb) (x_rm fr lo) (x_pre g sh av M sz) (va_Qr (fun N => N = M) (fun N z t => z = a ∧ x_B g sh N t) (x_A g sh sz)) 0 0 (x_A g sh sz)
theorem x_stR {l : Launch} {g : xG} {sh : Nat} {y : MethodName} {bc : ByteArray} {mL fr lo : Nat} {nm : String} {av : List Value} {M : xM} {a : Nat} (own : String) (hy : plainName y.cls = true) (hyc : y.cls = own) (hlen : (lg_sl av).length ≤ mL)
    (body : ∀ (p : Program) (e : Env) (s : State) (m : MethodId) (args : Array Value) (below : List Frame) (meth : Method) (c : Code) (Q : State → Prop) (ls : Array Slot), x_C g sh p s m args c bc mL own → x_w g sh s s.heap [] M →
      (∀ {pc : Nat} {ls : Array Slot} {z : Nat}, z = a → decode bc pc = .ok (.areturn, 1) → W p l e (x_rm fr lo) s m args below meth c s.heap [] 0 0 Q (F0 m pc ls [.ref z])) →
      lv_has ls mL (lv_args 0 av) → W p l e (x_rm fr lo) s m args below meth c s.heap [] 0 0 Q (F0 m 0 ls [])) :
    x_cR l g sh y bc mL (.object nm) fr lo av M a := by
  intro sz
  refine Met.ofW (cc := bc) (maxL := mL) (ret := some (.object nm)) hy rfl ?_
  intro p e s m args below meth c s₁ B hml hv
  obtain ⟨rfl, hsz, hP, hK⟩ := hv
  have hts := atoms_spec (ws := (.code y bc mL (some (.object nm)) :: x_tb)) B.pre
  have hown : s.vm.findClass own = some m.cls := by rw [← hyc]; exact findClass_of_methodNamed B.named
  subst hsz
  rw [lg_entry_eq]
  refine body p e s m _ below meth c _ _ ⟨B.exec, B.bytes, hml, hown, fun w h => hts w (List.mem_cons_of_mem _ h), hK⟩ ⟨hP, va_S.rf⟩ ?_ (lv_entry av hlen)
  intro pc ls z hz hd
  subst hz
  exact W.aret B.exec B.bytes B.returns (Or.inl ⟨nm, rfl⟩) (Or.inr ⟨_, rfl⟩) (fun t ht _ => ⟨⟨M, z, rfl, rfl, rfl, by show va_P _ _ _ t.heap; rw [ht]; exact hP⟩, (va_S.rf).F ht⟩) (fun q hq => by cases hq) hd B.notSynchronized
section XT
variable {p : Program} {l : Launch} {e : Env} {R : Room} {s : State} {m : MethodId} {args : Array Value} {below : List Frame} {meth : Method} {c : Code} {H : Heap} {locs : List Loc} {cells slots : Nat} {Q : State → Prop}
variable {cc : ByteArray} {pc nL : Nat} {ls : Array Slot} {rest : List Value} {own : String} {g : xG} {sh : Nat} {M : xM}
variable {y : MethodName} {bc : ByteArray} {mL fr lo idx n : Nat} {rt : FieldType}
theorem x_C.vS (C : x_C g sh p s m args c cc nL own) : vk_S 6 x_len x_byt (fun i => g.2.2.2 (1 + i)) (fun i => g.2.2.2 (7 + i)) (x_A g sh s.heap.size) s s.heap := C.2.2.2.2.2.2.2.2.2.2.1.2.2.1
theorem x_C.cS (C : x_C g sh p s m args c cc nL own) : va_Z "java/lang/String" "COMPACT_STRINGS" "Z" (.int 1) (x_A g sh s.heap.size) s s.heap := C.2.2.2.2.2.2.2.2.2.2.1.2.2.2.1
theorem x_C.fS (C : x_C g sh p s m args c cc nL own) : va_Zq "jdk/internal/util/Preconditions" "SIOOBE_FORMATTER" "Ljava/util/function/BiFunction;" (x_A g sh s.heap.size) s s.heap := C.2.2.2.2.2.2.2.2.2.2.1.2.2.2.2
theorem x_C.tX (C : x_C g sh p s m args c cc nL own) : x_Tx g s := C.2.2.2.2.2.2.2.2.2.2.2
/-- a text's own methods -/
theorem x_tI {post : Int32 → xM → Prop} {i : Nat} (C : x_C g sh p s m args c cc nL own) (hw : x_w g sh s H locs M) (hl : ls.size = nL) (As rest : List Value) (hi : i < 6) (hM : x_cI l g sh y bc mL rt fr lo (.ref (g.2.2.2 (1 + i)) :: As) M post) (L : x_lV own idx "java/lang/String" y bc mL (some rt) n) (hR : fr + 1 ≤ R.frames ∧ 8 + (mL + 11) + lo ≤ R.locals) (hn : As.length = n) (hr : (rest.map fun v => v.category).sum ≤ 8) (hcs : cells ≤ R.cells ∧ slots ≤ R.slots) (hdg : decode cc pc = .ok (.invokevirtual idx, 3))
    (kk : ∀ (v : Int32) (N : xM) (H1 : Heap) (locs1 : List Loc), post v N → x_w g sh s H1 locs1 N → W p l e R s m args below meth c H1 locs1 cells slots Q (F0 m (pc + 3) ls (.int v :: rest))) : W p l e R s m args below meth c H locs cells slots Q (F0 m pc ls (As.reverse ++ .ref (g.2.2.2 (1 + i)) :: rest)) := by
  refine va_calli (va_runV (As := As) (rest := rest) ⟨C.1, C.2.1, C.2.2.1, C.2.2.2.1, C.2.2.2.2.1⟩ (hM H.size) (x_cw C L hR) ⟨x_blind, vk_recv C.vS hi hw.2, x_at C hw⟩ rfl hn hl rfl (lv_room hr) hdg hcs) hw.2 (fun q _ h => x_A_mono hw.2.1 q h) (fun q h => x_A_mono hw.2.1 q h) (fun v N t H1 locs1 ht hvm hp hB _ _ hS => ?_)
  exact kk v N H1 locs1 hp ⟨by rw [← ht]; exact hB, hS⟩
/-- the same, nothing changed -/
theorem x_tK {i : Nat} {r : Int32} (C : x_C g sh p s m args c cc nL own) (hw : x_w g sh s H locs M) (hl : ls.size = nL) (As rest : List Value) (hi : i < 6) (hM : x_cI l g sh y bc mL rt fr lo (.ref (g.2.2.2 (1 + i)) :: As) M (fun v N => v = r ∧ N = M)) (L : x_lV own idx "java/lang/String" y bc mL (some rt) n) (hR : fr + 1 ≤ R.frames ∧ 8 + (mL + 11) + lo ≤ R.locals) (hn : As.length = n) (hr : (rest.map fun v => v.category).sum ≤ 8) (hcs : cells ≤ R.cells ∧ slots ≤ R.slots) (hdg : decode cc pc = .ok (.invokevirtual idx, 3))
    (kk : ∀ (H1 : Heap) (locs1 : List Loc), x_w g sh s H1 locs1 M → W p l e R s m args below meth c H1 locs1 cells slots Q (F0 m (pc + 3) ls (.int r :: rest))) : W p l e R s m args below meth c H locs cells slots Q (F0 m pc ls (As.reverse ++ .ref (g.2.2.2 (1 + i)) :: rest)) :=
  x_tI C hw hl As rest hi hM L hR hn hr hcs hdg (fun v N H1 locs1 hN hw1 => by
    obtain ⟨rfl, hN⟩ := hN
    exact kk H1 locs1 (hN ▸ hw1))
/-- a static method that answers a text -/
theorem x_sR {a : Nat} (C : x_C g sh p s m args c cc nL own) (hw : x_w g sh s H locs M) (hl : ls.size = nL) (As rest : List Value) (hM : x_cR l g sh y bc mL rt fr lo As M a) (L : x_lS own idx y bc mL (some rt) n) (hR : fr + 1 ≤ R.frames ∧ 8 + (mL + 11) + lo ≤ R.locals) (hn : As.length = n) (hr : (rest.map fun v => v.category).sum ≤ 8) (hcs : cells ≤ R.cells ∧ slots ≤ R.slots) (hdg : decode cc pc = .ok (.invokestatic idx, 3))
    (kk : ∀ (H1 : Heap) (locs1 : List Loc), x_w g sh s H1 locs1 M → W p l e R s m args below meth c H1 locs1 cells slots Q (F0 m (pc + 3) ls (.ref a :: rest))) : W p l e R s m args below meth c H locs cells slots Q (F0 m pc ls (As.reverse ++ rest)) := by
  refine va_callr (va_runS (As := As) (rest := rest) ⟨C.1, C.2.1, C.2.2.1, C.2.2.2.1, C.2.2.2.2.1⟩ (hM H.size) ⟨x_cb C L.1 L.2.2.1 L.2.2.2.1 L.2.2.2.2 hR, C.2.2.2.2.1 _ L.2.1⟩ ⟨x_blind, x_at C hw⟩ rfl hn hl rfl (lv_room hr) hdg hcs) hw.2 (fun q _ h => x_A_mono hw.2.1 q h) (fun q h => x_A_mono hw.2.1 q h) (fun N ra t H1 locs1 ht hvm hp hB _ _ hS => ?_)
  obtain ⟨rfl, hB⟩ := hB
  subst hp
  exact kk H1 locs1 ⟨by rw [← ht]; exact hB, hS⟩
/-- a static method that answers nothing -/
theorem x_sV {post : xM → Prop} (C : x_C g sh p s m args c cc nL own) (hw : x_w g sh s H locs M) (hl : ls.size = nL) (As rest : List Value) (hM : x_cV l g sh y bc mL fr lo As M post) (L : x_lS own idx y bc mL none n) (hR : fr + 1 ≤ R.frames ∧ 8 + (mL + 11) + lo ≤ R.locals) (hn : As.length = n) (hr : (rest.map fun v => v.category).sum ≤ 8) (hcs : cells ≤ R.cells ∧ slots ≤ R.slots) (hdg : decode cc pc = .ok (.invokestatic idx, 3))
    (kk : ∀ (N : xM) (H1 : Heap) (locs1 : List Loc), post N → x_w g sh s H1 locs1 N → W p l e R s m args below meth c H1 locs1 cells slots Q (F0 m (pc + 3) ls rest)) : W p l e R s m args below meth c H locs cells slots Q (F0 m pc ls (As.reverse ++ rest)) := by
  refine va_callv (va_runS (As := As) (rest := rest) ⟨C.1, C.2.1, C.2.2.1, C.2.2.2.1, C.2.2.2.2.1⟩ (hM H.size) ⟨x_cb C L.1 L.2.2.1 L.2.2.2.1 L.2.2.2.2 hR, C.2.2.2.2.1 _ L.2.1⟩ ⟨x_blind, x_at C hw⟩ rfl hn hl rfl (lv_room hr) hdg hcs) hw.2 (fun q _ h => x_A_mono hw.2.1 q h) (fun q h => x_A_mono hw.2.1 q h) (fun N t H1 locs1 ht hvm hp hB _ _ hS => ?_)
  exact kk N H1 locs1 hp ⟨by rw [← ht]; exact hB, hS⟩
theorem kf_9 : Cond.fieldLink RJ0 9 "java/lang/String" "value" "[B" ∈ x_tb := x_mem (i := 1571) (by decide +kernel) (by decide +kernel)
theorem kf_15 : Cond.fieldLink RJ0 15 "java/lang/String" "coder" "B" ∈ x_tb := x_mem (i := 1570) (by decide +kernel) (by decide +kernel)
theorem kf_38 : Cond.fieldLink RJ0 38 "java/lang/String" "COMPACT_STRINGS" "Z" ∈ x_tb := x_mem (i := 661) (by decide +kernel) (by decide +kernel)
theorem kf_1053 : Cond.fieldLink RJ0 1053 "jdk/internal/util/Preconditions" "SIOOBE_FORMATTER" "Ljava/util/function/BiFunction;" ∈ x_tb := x_mem (i := 702) (by decide +kernel) (by decide +kernel)
theorem lkt_RJ0_492 : x_lV RJ0 492 "java/lang/String" yJ0_isLatin1_aae02 cJ0_isLatin1_aae02 1 (some .boolean) 0 := ⟨x_mem (i := 657) (by decide +kernel) (by decide +kernel), x_mem (i := 658) (by decide +kernel) (by decide +kernel), x_mem (i := 659) (by decide +kernel) (by decide +kernel), x_mem (i := 54) (by decide +kernel) (by decide +kernel), x_mem (i := 660) (by decide +kernel) (by decide +kernel), rfl, by decide +kernel, by decide +kernel, by decide +kernel⟩
theorem lkt_RJ0_335 : x_lV RJ0 335 "java/lang/String" yJ0_coder_7d493 cJ0_coder_7d493 1 (some .byte) 0 := ⟨x_mem (i := 667) (by decide +kernel) (by decide +kernel), x_mem (i := 668) (by decide +kernel) (by decide +kernel), x_mem (i := 669) (by decide +kernel) (by decide +kernel), x_mem (i := 54) (by decide +kernel) (by decide +kernel), x_mem (i := 670) (by decide +kernel) (by decide +kernel), rfl, by decide +kernel, by decide +kernel, by decide +kernel⟩
theorem lkt_RJ0_505 : x_lV RJ0 505 "java/lang/String" yJ0_length_8abf5 cJ0_length_8abf5 1 (some .int) 0 := ⟨x_mem (i := 663) (by decide +kernel) (by decide +kernel), x_mem (i := 664) (by decide +kernel) (by decide +kernel), x_mem (i := 665) (by decide +kernel) (by decide +kernel), x_mem (i := 54) (by decide +kernel) (by decide +kernel), x_mem (i := 666) (by decide +kernel) (by decide +kernel), rfl, by decide +kernel, by decide +kernel, by decide +kernel⟩
theorem lkt_RJ0_633 : x_lV RJ0 633 "java/lang/String" yJ0_indexOf_7cf53 cJ0_indexOf_7cf53 3 (some .int) 2 := ⟨x_mem (i := 653) (by decide +kernel) (by decide +kernel), x_mem (i := 654) (by decide +kernel) (by decide +kernel), x_mem (i := 655) (by decide +kernel) (by decide +kernel), x_mem (i := 54) (by decide +kernel) (by decide +kernel), x_mem (i := 656) (by decide +kernel) (by decide +kernel), rfl, by decide +kernel, by decide +kernel, by decide +kernel⟩
theorem lkt_RJ0_495 : x_lS RJ0 495 yJ1_charAt_3b067 cJ1_charAt_3b067 2 (some .char) 2 := ⟨x_mem (i := 761) (by decide +kernel) (by decide +kernel), x_mem (i := 762) (by decide +kernel) (by decide +kernel), x_mem (i := 55) (by decide +kernel) (by decide +kernel), x_mem (i := 763) (by decide +kernel) (by decide +kernel), by decide +kernel, by decide +kernel, by decide +kernel⟩
theorem lkt_RJ0_637 : x_lS RJ0 637 yJ1_indexOf_4cfef cJ1_indexOf_4cfef 4 (some .int) 4 := ⟨x_mem (i := 671) (by decide +kernel) (by decide +kernel), x_mem (i := 672) (by decide +kernel) (by decide +kernel), x_mem (i := 55) (by decide +kernel) (by decide +kernel), x_mem (i := 673) (by decide +kernel) (by decide +kernel), by decide +kernel, by decide +kernel, by decide +kernel⟩
theorem lkt_RJ0_1059 : x_lS RJ0 1059 yJ3_checkIndex_8e157 cJ3_checkIndex_8e157 3 (some .int) 3 := ⟨x_mem (i := 767) (by decide +kernel) (by decide +kernel), x_mem (i := 768) (by decide +kernel) (by decide +kernel), x_mem (i := 57) (by decide +kernel) (by decide +kernel), x_mem (i := 769) (by decide +kernel) (by decide +kernel), by decide +kernel, by decide +kernel, by decide +kernel⟩
theorem lkt_RJ1_9 : x_lS RJ1 9 yJ0_checkIndex_df160 cJ0_checkIndex_df160 2 none 2 := ⟨x_mem (i := 764) (by decide +kernel) (by decide +kernel), x_mem (i := 765) (by decide +kernel) (by decide +kernel), x_mem (i := 54) (by decide +kernel) (by decide +kernel), x_mem (i := 766) (by decide +kernel) (by decide +kernel), by decide +kernel, by decide +kernel, by decide +kernel⟩
theorem lkt_RJ1_88 : x_lS RJ1 88 yJ1_canEncode_9a6ad cJ1_canEncode_9a6ad 1 (some .boolean) 1 := ⟨x_mem (i := 674) (by decide +kernel) (by decide +kernel), x_mem (i := 675) (by decide +kernel) (by decide +kernel), x_mem (i := 55) (by decide +kernel) (by decide +kernel), x_mem (i := 676) (by decide +kernel) (by decide +kernel), by decide +kernel, by decide +kernel, by decide +kernel⟩
theorem lkt_RJ1_95 : x_lS RJ1 95 yJ1_indexOfChar_4cfef cJ1_indexOfChar_4cfef 6 (some .int) 4 := ⟨x_mem (i := 681) (by decide +kernel) (by decide +kernel), x_mem (i := 682) (by decide +kernel) (by decide +kernel), x_mem (i := 55) (by decide +kernel) (by decide +kernel), x_mem (i := 683) (by decide +kernel) (by decide +kernel), by decide +kernel, by decide +kernel, by decide +kernel⟩
theorem lkt_RX9_47 : x_lV RX9 47 "java/lang/String" yJ0_length_8abf5 cJ0_length_8abf5 1 (some .int) 0 := ⟨x_mem (i := 756) (by decide +kernel) (by decide +kernel), x_mem (i := 664) (by decide +kernel) (by decide +kernel), x_mem (i := 665) (by decide +kernel) (by decide +kernel), x_mem (i := 54) (by decide +kernel) (by decide +kernel), x_mem (i := 666) (by decide +kernel) (by decide +kernel), rfl, by decide +kernel, by decide +kernel, by decide +kernel⟩
theorem lkt_RX9_51 : x_lV RX9 51 "java/lang/String" yJ0_charAt_5068e cJ0_charAt_5068e 2 (some .char) 1 := ⟨x_mem (i := 757) (by decide +kernel) (by decide +kernel), x_mem (i := 758) (by decide +kernel) (by decide +kernel), x_mem (i := 759) (by decide +kernel) (by decide +kernel), x_mem (i := 54) (by decide +kernel) (by decide +kernel), x_mem (i := 760) (by decide +kernel) (by decide +kernel), rfl, by decide +kernel, by decide +kernel, by decide +kernel⟩
theorem lkt_RX6_133 : x_lV RX6 133 "java/lang/String" yJ0_indexOf_0f7a4 cJ0_indexOf_0f7a4 2 (some .int) 1 := ⟨x_mem (i := 649) (by decide +kernel) (by decide +kernel), x_mem (i := 650) (by decide +kernel) (by decide +kernel), x_mem (i := 651) (by decide +kernel) (by decide +kernel), x_mem (i := 54) (by decide +kernel) (by decide +kernel), x_mem (i := 652) (by decide +kernel) (by decide +kernel), rfl, by decide +kernel, by decide +kernel, by decide +kernel⟩
theorem lkt_RX6_130 : x_lS RX6 130 yX6_namesOf cX6_namesOf 1 (some (.object "java/lang/String")) 1 := ⟨x_mem (i := 643) (by decide +kernel) (by decide +kernel), x_mem (i := 644) (by decide +kernel) (by decide +kernel), x_mem (i := 49) (by decide +kernel) (by decide +kernel), x_mem (i := 645) (by decide +kernel) (by decide +kernel), by decide +kernel, by decide +kernel, by decide +kernel⟩
theorem lkt_RX6_97 : x_lS RX6 97 yX6_heading cX6_heading 1 (some (.object "java/lang/String")) 1 := ⟨x_mem (i := 746) (by decide +kernel) (by decide +kernel), x_mem (i := 747) (by decide +kernel) (by decide +kernel), x_mem (i := 49) (by decide +kernel) (by decide +kernel), x_mem (i := 748) (by decide +kernel) (by decide +kernel), by decide +kernel, by decide +kernel, by decide +kernel⟩
theorem mmt_92 {x y : Int32} (C : x_C g sh p s m args c cc nL RJ1) (hl : ls.size = nL) (hf : 1 ≤ R.frames) (ho : (rest.map fun v => v.category).sum + 15 ≤ R.locals) (hcs : cells ≤ R.cells ∧ slots ≤ R.slots) (hdg : decode cc pc = .ok (.invokestatic 92, 3)) (kk : W p l e R s m args below meth c H locs cells slots Q (F0 m (pc + 3) ls (.int (if x < y then y else x) :: rest))) : W p l e R s m args below meth c H locs cells slots Q (F0 m pc ls (.int y :: .int x :: rest)) := va_mmax C.1 C.2.1 (C.2.2.1.trans hl.symm) (own := RJ1) (index := 92) C.2.2.2.1 (C.2.2.2.2.1 _ (x_mem (i := 677) (by decide +kernel) (by decide +kernel))) (C.2.2.2.2.1 _ (x_mem (i := 504) (by decide +kernel) (by decide +kernel))) (C.2.2.2.2.1 _ (x_mem (i := 53) (by decide +kernel) (by decide +kernel))) (C.2.2.2.2.1 _ (x_mem (i := 505) (by decide +kernel) (by decide +kernel))) hf (by omega) hcs.1 hcs.2 hdg kk
theorem mmt_38 {x y : Int32} (C : x_C g sh p s m args c cc nL RJ1) (hl : ls.size = nL) (hf : 1 ≤ R.frames) (ho : (rest.map fun v => v.category).sum + 15 ≤ R.locals) (hcs : cells ≤ R.cells ∧ slots ≤ R.slots) (hdg : decode cc pc = .ok (.invokestatic 38, 3)) (kk : W p l e R s m args below meth c H locs cells slots Q (F0 m (pc + 3) ls (.int (if y < x then y else x) :: rest))) : W p l e R s m args below meth c H locs cells slots Q (F0 m pc ls (.int y :: .int x :: rest)) := va_mmin C.1 C.2.1 (C.2.2.1.trans hl.symm) (own := RJ1) (index := 38) C.2.2.2.1 (C.2.2.2.2.1 _ (x_mem (i := 678) (by decide +kernel) (by decide +kernel))) (C.2.2.2.2.1 _ (x_mem (i := 679) (by decide +kernel) (by decide +kernel))) (C.2.2.2.2.1 _ (x_mem (i := 53) (by decide +kernel) (by decide +kernel))) (C.2.2.2.2.1 _ (x_mem (i := 680) (by decide +kernel) (by decide +kernel))) hf (by omega) hcs.1 hcs.2 hdg kk
end XT
theorem mJ_isLatin1 (l : Launch) (g : xG) {i : Nat} (hi : i < 6) {M : xM} : x_cI l g 0 yJ0_isLatin1_aae02 cJ0_isLatin1_aae02 1 .boolean 0 0 [.ref (g.2.2.2 (1 + i))] M (fun v N => v = 1 ∧ N = M) := by
  refine x_stN RJ0 (by decide) rfl (Nat.le_of_ble_eq_true rfl) ?_
  intro p e s m args below meth c Q ls C hw ret hl
  obtain ⟨hx, hb, hml, hown, hB, -⟩ := id C
  have hl : lv_has ls 1 [(0, .ref (g.2.2.2 (1 + i)))] := hl
  refine va_gets hx hb C.cS hw.2 hown (hB _ kf_38) (fun _ h => h) dJ0_isLatin1_aae02_0 ?_
  refine lv_if_eq (tgt := 17) hx hb dJ0_isLatin1_aae02_3 (by decide) (fun q => absurd q (by decide)) (fun q => ?_)
  refine lv_aload_n hx hb dJ0_isLatin1_aae02_6 rfl (lv_at hl 0 rfl) ?_
  refine vk_getf hx hb (C.vS.1 i hi).2.1 hw.2 hown (hB _ kf_15) (fun _ h => h) dJ0_isLatin1_aae02_7 ?_
  refine lv_if_ne (tgt := 17) hx hb dJ0_isLatin1_aae02_10 (by decide) (fun q => absurd rfl q) (fun q => ?_)
  refine lv_iconst (v := 1) hx hb dJ0_isLatin1_aae02_13 (by decide) ?_
  refine lv_goto (tgt := 18) hx hb dJ0_isLatin1_aae02_14 (by decide) ?_
  exact ret rfl ⟨rfl, rfl⟩ dJ0_isLatin1_aae02_18 hw
theorem mJ_coder (l : Launch) (g : xG) {i : Nat} (hi : i < 6) {M : xM} : x_cI l g 0 yJ0_coder_7d493 cJ0_coder_7d493 1 .byte 0 0 [.ref (g.2.2.2 (1 + i))] M (fun v N => v = 0 ∧ N = M) := by
  refine x_stN RJ0 (by decide) rfl (Nat.le_of_ble_eq_true rfl) ?_
  intro p e s m args below meth c Q ls C hw ret hl
  obtain ⟨hx, hb, hml, hown, hB, -⟩ := id C
  have hl : lv_has ls 1 [(0, .ref (g.2.2.2 (1 + i)))] := hl
  refine va_gets hx hb C.cS hw.2 hown (hB _ kf_38) (fun _ h => h) dJ0_coder_7d493_0 ?_
  refine lv_if_eq (tgt := 13) hx hb dJ0_coder_7d493_3 (by decide) (fun q => absurd q (by decide)) (fun q => ?_)
  refine lv_aload_n hx hb dJ0_coder_7d493_6 rfl (lv_at hl 0 rfl) ?_
  refine vk_getf hx hb (C.vS.1 i hi).2.1 hw.2 hown (hB _ kf_15) (fun _ h => h) dJ0_coder_7d493_7 ?_
  refine lv_goto (tgt := 14) hx hb dJ0_coder_7d493_10 (by decide) ?_
  exact ret rfl ⟨rfl, rfl⟩ dJ0_coder_7d493_14 hw
theorem mJ_length (l : Launch) (g : xG) {i : Nat} (hi : i < 6) {M : xM} : x_cI l g 0 yJ0_length_8abf5 cJ0_length_8abf5 1 .int 1 20 [.ref (g.2.2.2 (1 + i))] M (fun v N => v = xs_len i ∧ N = M) := by
  refine x_stN RJ0 (by decide) rfl (Nat.le_of_ble_eq_true rfl) ?_
  intro p e s m args below meth c Q ls C hw ret hl
  obtain ⟨hx, hb, hml, hown, hB, -⟩ := id C
  have hl : lv_has ls 1 [(0, .ref (g.2.2.2 (1 + i)))] := hl
  refine lv_aload_n hx hb dJ0_length_8abf5_0 rfl (lv_at hl 0 rfl) ?_
  refine vk_getf hx hb (C.vS.1 i hi).2.2.1 hw.2 hown (hB _ kf_9) (fun _ h => h) dJ0_length_8abf5_1 ?_
  refine va_tlen hx hb (C.vS.1 i hi).2.2.2 hw.2 rfl dJ0_length_8abf5_4 ?_
  refine lv_aload_n hx hb dJ0_length_8abf5_5 rfl (lv_at hl 0 rfl) ?_
  refine x_tI C hw hl.1 [] [.int (Int32.ofNat (x_len.getD i 0))] hi (mJ_coder l g hi) lkt_RJ0_335 (by decide) rfl (Nat.le_of_ble_eq_true rfl) ⟨Nat.zero_le _, Nat.zero_le _⟩ dJ0_length_8abf5_6 (fun v N H locs hN hw1 => ?_)
  obtain ⟨rfl, hN⟩ := hN
  refine lv_ishr hx hb dJ0_length_8abf5_9 ?_
  refine ret rfl ⟨?_, hN⟩ dJ0_length_8abf5_10 hw1
  have : ∀ j, j < 6 → Int32.ofNat (x_len.getD j 0) >>> ((0 : Int32) &&& 31) = Int32.ofNat (x_len.getD j 0) := by decide +kernel
  exact this i hi

theorem mJ_pcheckn (l : Launch) (g : xG) {a b : Int32} {t : Nat} (h0 : ¬ a < 0) (h1 : a < b) {M : xM} : x_cI l g 0 yJ3_checkIndex_8e157 cJ3_checkIndex_8e157 3 .int 0 0 [.int a, .int b, .null] M (fun v N => v = a ∧ N = M) := by
  refine x_stN RJ3 (by decide) rfl (Nat.le_of_ble_eq_true rfl) ?_
  intro p e s m args below meth c Q ls C hw ret hl
  obtain ⟨hx, hb, hml, hown, hB, -⟩ := id C
  have hl : lv_has ls 3 [(0, .int a), (1, .int b), (2, .null)] := hl
  refine lv_iload_n hx hb dJ3_checkIndex_8e157_0 rfl (lv_at hl 0 rfl) ?_
  refine lv_if_lt (tgt := 9) hx hb dJ3_checkIndex_8e157_1 (by decide) (fun q => absurd q h0) (fun q => ?_)
  refine lv_iload_n hx hb dJ3_checkIndex_8e157_4 rfl (lv_at hl 0 rfl) ?_
  refine lv_iload_n hx hb dJ3_checkIndex_8e157_5 rfl (lv_at hl 1 rfl) ?_
  refine lv_icmp_lt (tgt := 16) hx hb dJ3_checkIndex_8e157_6 (by decide) (fun q => ?_) (fun q => absurd h1 q)
  refine lv_iload_n hx hb dJ3_checkIndex_8e157_16 rfl (lv_at hl 0 rfl) ?_
  exact ret rfl ⟨rfl, rfl⟩ dJ3_checkIndex_8e157_17 hw
theorem mJ_pcheckr (l : Launch) (g : xG) {a b : Int32} {t : Nat} (h0 : ¬ a < 0) (h1 : a < b) {M : xM} : x_cI l g 0 yJ3_checkIndex_8e157 cJ3_checkIndex_8e157 3 .int 0 0 [.int a, .int b, .ref t] M (fun v N => v = a ∧ N = M) := by
  refine x_stN RJ3 (by decide) rfl (Nat.le_of_ble_eq_true rfl) ?_
  intro p e s m args below meth c Q ls C hw ret hl
  obtain ⟨hx, hb, hml, hown, hB, -⟩ := id C
  have hl : lv_has ls 3 [(0, .int a), (1, .int b), (2, .ref t)] := hl
  refine lv_iload_n hx hb dJ3_checkIndex_8e157_0 rfl (lv_at hl 0 rfl) ?_
  refine lv_if_lt (tgt := 9) hx hb dJ3_checkIndex_8e157_1 (by decide) (fun q => absurd q h0) (fun q => ?_)
  refine lv_iload_n hx hb dJ3_checkIndex_8e157_4 rfl (lv_at hl 0 rfl) ?_
  refine lv_iload_n hx hb dJ3_checkIndex_8e157_5 rfl (lv_at hl 1 rfl) ?_
  refine lv_icmp_lt (tgt := 16) hx hb dJ3_checkIndex_8e157_6 (by decide) (fun q => ?_) (fun q => absurd h1 q)
  refine lv_iload_n hx hb dJ3_checkIndex_8e157_16 rfl (lv_at hl 0 rfl) ?_
  exact ret rfl ⟨rfl, rfl⟩ dJ3_checkIndex_8e157_17 hw
theorem mJ_checkIndex (l : Launch) (g : xG) {a b : Int32} (h0 : ¬ a < 0) (h1 : a < b) {M : xM} : x_cV l g 0 yJ0_checkIndex_df160 cJ0_checkIndex_df160 2 1 22 [.int a, .int b] M (fun N => N = M) := by
  refine x_stV RJ0 (by decide) rfl (Nat.le_of_ble_eq_true rfl) ?_
  intro p e s m args below meth c Q ls C hw ret hl
  obtain ⟨hx, hb, hml, hown, hB, -⟩ := id C
  have hl : lv_has ls 2 [(0, .int a), (1, .int b)] := hl
  refine lv_iload_n hx hb dJ0_checkIndex_df160_0 rfl (lv_at hl 0 rfl) ?_
  refine lv_iload_n hx hb dJ0_checkIndex_df160_1 rfl (lv_at hl 1 rfl) ?_
  rcases C.fS with hZ | ⟨t, hZ⟩
  · refine va_gets hx hb hZ hw.2 hown (hB _ kf_1053) (fun _ h => h) dJ0_checkIndex_df160_2 ?_
    refine x_sI C hw hl.1 [.int a, .int b, .null] [] (mJ_pcheckn (t := 0) l g h0 h1) lkt_RJ0_1059 (by decide) rfl (Nat.le_of_ble_eq_true rfl) ⟨Nat.zero_le _, Nat.zero_le _⟩ dJ0_checkIndex_df160_5 (fun v N H locs hN hw1 => ?_)
    refine lv_pop hx hb dJ0_checkIndex_df160_8 rfl ?_
    exact ret (by rw [hN.2]) dJ0_checkIndex_df160_9 hw1
  · refine va_gets hx hb hZ hw.2 hown (hB _ kf_1053) (fun _ h => h) dJ0_checkIndex_df160_2 ?_
    refine x_sI C hw hl.1 [.int a, .int b, .ref t] [] (mJ_pcheckr l g h0 h1) lkt_RJ0_1059 (by decide) rfl (Nat.le_of_ble_eq_true rfl) ⟨Nat.zero_le _, Nat.zero_le _⟩ dJ0_checkIndex_df160_5 (fun v N H locs hN hw1 => ?_)
    refine lv_pop hx hb dJ0_checkIndex_df160_8 rfl ?_
    exact ret (by rw [hN.2]) dJ0_checkIndex_df160_9 hw1
theorem mJ_lcharAt (l : Launch) (g : xG) {i : Nat} (hi : i < 6) {k : Int32} (hk : vp_in k (xs_n i)) {M : xM} : x_cI l g 0 yJ1_charAt_3b067 cJ1_charAt_3b067 2 .char 2 43 [.ref (g.2.2.2 (7 + i)), .int k] M (fun v N => v = xs_b i k.toNatClampNeg ∧ N = M) := by
  refine x_stN RJ1 (by decide) rfl (Nat.le_of_ble_eq_true rfl) ?_
  intro p e s m args below meth c Q ls C hw ret hl
  obtain ⟨hx, hb, hml, hown, hB, -⟩ := id C
  have hl : lv_has ls 2 [(0, .ref (g.2.2.2 (7 + i))), (1, .int k)] := hl
  obtain ⟨o1, o2, o3, o4⟩ := xs_ok i hi
  have hlt : k.toNatClampNeg < xs_n i := x_ilt hk
  have hk0 : ¬ k < 0 := fun q => hk (Or.inl q)
  have hk1 : k < Int32.ofNat (x_len.getD i 0) := by
    obtain ⟨n, hn, e⟩ := nI_of hk0
    have e2 : k.toNatClampNeg = n := by rw [e, nI_clamp hn]
    rw [e]
    exact nI_lt (b := xs_n i) (by omega) (by omega)
  refine lv_iload_n hx hb dJ1_charAt_3b067_0 rfl (lv_at hl 1 rfl) ?_
  refine lv_aload_n hx hb dJ1_charAt_3b067_1 rfl (lv_at hl 0 rfl) ?_
  refine va_tlen hx hb (C.vS.1 i hi).2.2.2 hw.2 rfl dJ1_charAt_3b067_2 ?_
  refine x_sV C hw hl.1 [.int k, .int (Int32.ofNat (x_len.getD i 0))] [] (mJ_checkIndex l g hk0 hk1) lkt_RJ1_9 (by decide) rfl (Nat.le_of_ble_eq_true rfl) ⟨Nat.zero_le _, Nat.zero_le _⟩ dJ1_charAt_3b067_3 (fun N H locs hN hw1 => ?_)
  refine lv_aload_n hx hb dJ1_charAt_3b067_6 rfl (lv_at hl 0 rfl) ?_
  refine lv_iload_n hx hb dJ1_charAt_3b067_7 rfl (lv_at hl 1 rfl) ?_
  refine va_tb hx hb (C.vS.1 i hi).2.2.2 hw1.2 hk rfl dJ1_charAt_3b067_8 ?_
  refine lv_sipush (v := 255) hx hb dJ1_charAt_3b067_9 (by decide) ?_
  refine lv_iand hx hb dJ1_charAt_3b067_12 ?_
  refine lv_i2c hx hb dJ1_charAt_3b067_13 (o4 _ hlt).1 ?_
  exact ret (o4 _ hlt).2 ⟨rfl, hN⟩ dJ1_charAt_3b067_14 hw1
theorem mJ_charAt (l : Launch) (g : xG) {i : Nat} (hi : i < 6) {k : Int32} (hk : vp_in k (xs_n i)) {M : xM} : x_cI l g 0 yJ0_charAt_5068e cJ0_charAt_5068e 2 .char 3 64 [.ref (g.2.2.2 (1 + i)), .int k] M (fun v N => v = xs_b i k.toNatClampNeg ∧ N = M) := by
  refine x_stN RJ0 (by decide) rfl (Nat.le_of_ble_eq_true rfl) ?_
  intro p e s m args below meth c Q ls C hw ret hl
  obtain ⟨hx, hb, hml, hown, hB, -⟩ := id C
  have hl : lv_has ls 2 [(0, .ref (g.2.2.2 (1 + i))), (1, .int k)] := hl
  obtain ⟨o1, o2, o3, o4⟩ := xs_ok i hi
  have hlt : k.toNatClampNeg < xs_n i := x_ilt hk
  refine lv_aload_n hx hb dJ0_charAt_5068e_0 rfl (lv_at hl 0 rfl) ?_
  refine x_tI C hw hl.1 [] [] hi (mJ_isLatin1 l g hi) lkt_RJ0_492 (by decide) rfl (Nat.le_of_ble_eq_true rfl) ⟨Nat.zero_le _, Nat.zero_le _⟩ dJ0_charAt_5068e_1 (fun v N H locs hN hw1 => ?_)
  obtain ⟨rfl, hN⟩ := hN
  refine lv_if_eq (tgt := 16) hx hb dJ0_charAt_5068e_4 (by decide) (fun q => absurd q (by decide)) (fun q => ?_)
  refine lv_aload_n hx hb dJ0_charAt_5068e_7 rfl (lv_at hl 0 rfl) ?_
  refine vk_getf hx hb (C.vS.1 i hi).2.2.1 hw1.2 hown (hB _ kf_9) (fun _ h => h) dJ0_charAt_5068e_8 ?_
  refine lv_iload_n hx hb dJ0_charAt_5068e_11 rfl (lv_at hl 1 rfl) ?_
  refine x_sI C hw1 hl.1 [.ref (g.2.2.2 (7 + i)), .int k] [] (mJ_lcharAt l g hi hk) lkt_RJ0_495 (by decide) rfl (Nat.le_of_ble_eq_true rfl) ⟨Nat.zero_le _, Nat.zero_le _⟩ dJ0_charAt_5068e_12 (fun v N H locs hN2 hw2 => ?_)
  obtain ⟨rfl, hN2⟩ := hN2
  exact ret (o4 _ hlt).2 ⟨rfl, hN2.trans hN⟩ dJ0_charAt_5068e_15 hw2
theorem mJ_canEncode (l : Launch) (g : xG) {k : Int32} {M : xM} : x_cI l g 0 yJ1_canEncode_9a6ad cJ1_canEncode_9a6ad 1 .boolean 0 0 [.int k] M (fun v N => v = (if k < 0 ∨ 255 < k then 0 else 1) ∧ N = M) := by
  refine x_stN RJ1 (by decide) rfl (Nat.le_of_ble_eq_true rfl) ?_
  intro p e s m args below meth c Q ls C hw ret hl
  obtain ⟨hx, hb, hml, hown, hB, -⟩ := id C
  have hl : lv_has ls 1 [(0, .int k)] := hl
  refine lv_iload_n hx hb dJ1_canEncode_9a6ad_0 rfl (lv_at hl 0 rfl) ?_
  refine lv_if_lt (tgt := 15) hx hb dJ1_canEncode_9a6ad_1 (by decide) (fun q => ?_) (fun q => ?_)
  · refine lv_iconst (v := 0) hx hb dJ1_canEncode_9a6ad_15 (by decide) ?_
    exact ret rfl ⟨(if_pos (Or.inl q)).symm, rfl⟩ dJ1_canEncode_9a6ad_16 hw
  · refine lv_iload_n hx hb dJ1_canEncode_9a6ad_4 rfl (lv_at hl 0 rfl) ?_
    refine lv_sipush (v := 255) hx hb dJ1_canEncode_9a6ad_5 (by decide) ?_
    refine lv_icmp_gt (tgt := 15) hx hb dJ1_canEncode_9a6ad_8 (by decide) (fun q2 => ?_) (fun q2 => ?_)
    · refine lv_iconst (v := 0) hx hb dJ1_canEncode_9a6ad_15 (by decide) ?_
      exact ret rfl ⟨(if_pos (Or.inr q2)).symm, rfl⟩ dJ1_canEncode_9a6ad_16 hw
    · refine lv_iconst (v := 1) hx hb dJ1_canEncode_9a6ad_11 (by decide) ?_
      refine lv_goto (tgt := 16) hx hb dJ1_canEncode_9a6ad_12 (by decide) ?_
      exact ret rfl ⟨(if_neg (fun z => z.elim q q2)).symm, rfl⟩ dJ1_canEncode_9a6ad_16 hw
theorem mJ_indexOfChar (l : Launch) (g : xG) {i : Nat} (hi : i < 6) {n : Nat} (hn : n < 256) {M : xM} : x_cI l g 0 yJ1_indexOfChar_4cfef cJ1_indexOfChar_4cfef 6 .int 0 0 [.ref (g.2.2.2 (7 + i)), .int (nI n), .int 0, .int (xs_len i)] M (fun v N => v = xs_ix i (nI n) ∧ N = M) := by
  refine x_stN RJ1 (by decide) rfl (Nat.le_of_ble_eq_true rfl) ?_
  intro p e s m args below meth c Q ls C hw ret hl
  obtain ⟨hx, hb, hml, hown, hB, -⟩ := id C
  have hl : lv_has ls 6 [(0, .ref (g.2.2.2 (7 + i))), (1, .int (nI n)), (2, .int 0), (3, .int (xs_len i))] := hl
  obtain ⟨o1, o2, o3, o4⟩ := xs_ok i hi
  have hL : ∀ (r : List Int32) (k : Nat) (ls : Array Slot), k ≤ xs_n i → (x_byt.getD i []).drop k = r → xs_ix i (nI n) = xs_f (nI n) r k → lv_has ls 6 [(5, .int (nI k)), (4, .int (nI n).toInt8.toInt32), (0, .ref (g.2.2.2 (7 + i))), (1, .int (nI n)), (2, .int 0), (3, .int (xs_len i))] → W p l e (x_rm 0 0) s m args below meth c s.heap [] 0 0 Q (F0 m 7 ls []) := by
    intro r
    induction r with
    | nil =>
      intro k ls hk e h hl
      have hk2 : xs_n i ≤ k := by rw [← o1]; exact List.drop_eq_nil_iff.mp e
      refine lv_iload hx hb dJ1_indexOfChar_4cfef_7 (lv_at hl 0 rfl) ?_
      refine lv_iload_n hx hb dJ1_indexOfChar_4cfef_9 rfl (lv_at hl 5 rfl) ?_
      refine lv_icmp_ge (tgt := 31) hx hb dJ1_indexOfChar_4cfef_10 (by decide) (fun q => ?_) (fun q => absurd (nI_le hk2 (by omega)) q)
      refine lv_iconst (v := -1) hx hb dJ1_indexOfChar_4cfef_31 (by decide) ?_
      exact ret rfl ⟨h.symm, rfl⟩ dJ1_indexOfChar_4cfef_32 hw
    | cons b r ih =>
      intro k ls hk e h hl
      have hk2 : k < xs_n i := by
        rcases Nat.lt_or_ge k (xs_n i) with q | q
        · exact q
        · rw [List.drop_eq_nil_iff.mpr (by omega)] at e
          cases e
      have eb : xs_b i k = b := by
        have e1 : (x_byt.getD i [])[k]? = some b := by
          rw [← List.head?_drop, e]
          rfl
        unfold xs_b
        rw [List.getD_eq_getElem?_getD, e1]
        rfl
      have er : (x_byt.getD i []).drop (k + 1) = r := by
        rw [← List.drop_drop, e]
        rfl
      refine lv_iload hx hb dJ1_indexOfChar_4cfef_7 (lv_at hl 0 rfl) ?_
      refine lv_iload_n hx hb dJ1_indexOfChar_4cfef_9 rfl (lv_at hl 5 rfl) ?_
      refine lv_icmp_ge (tgt := 31) hx hb dJ1_indexOfChar_4cfef_10 (by decide) (fun q => absurd (nI_lt hk2 (by omega)) (Int32.not_lt.mpr q)) (fun q => ?_)
      refine lv_aload_n hx hb dJ1_indexOfChar_4cfef_13 rfl (lv_at hl 2 rfl) ?_
      refine lv_iload hx hb dJ1_indexOfChar_4cfef_14 (lv_at hl 0 rfl) ?_
      refine va_tb hx hb (C.vS.1 i hi).2.2.2 hw.2 (vp_in_nI (show k < x_len.getD i 0 from hk2) (show xs_n i < 2 ^ 31 by omega)) rfl dJ1_indexOfChar_4cfef_16 ?_
      rw [nI_clamp (by omega)]
      refine lv_iload hx hb dJ1_indexOfChar_4cfef_17 (lv_at hl 1 rfl) ?_
      rw [xs_f] at h
      have i8 := xs_i8 i hi k hk2 n hn
      refine lv_icmp_ne (tgt := 25) hx hb dJ1_indexOfChar_4cfef_19 (by decide) (fun q => ?_) (fun q => ?_)
      · obtain ⟨k1, ek⟩ : ∃ z : Int32, z = nI k + 1 := ⟨_, rfl⟩
        refine lv_iinc (v := k1) (lv' := [(5, .int k1), (4, .int (nI n).toInt8.toInt32), (0, .ref (g.2.2.2 (7 + i))), (1, .int (nI n)), (2, .int 0), (3, .int (xs_len i))]) hx hb dJ1_indexOfChar_4cfef_25 hl (k := 0) rfl (by rw [ek]; rfl) (by decide) rfl (fun ls hl => ?_)
        refine lv_goto (tgt := 7) hx hb dJ1_indexOfChar_4cfef_28 (by decide) ?_
        rw [show k1 = nI (k + 1) from ek.trans (nI_add k 1)] at hl
        exact ih (k + 1) ls (by omega) er (by rw [h, if_neg (fun z => q (i8.mpr (eb.trans z)))]) hl
      · refine lv_iload hx hb dJ1_indexOfChar_4cfef_22 (lv_at hl 0 rfl) ?_
        exact ret rfl ⟨by rw [h, if_pos (eb.symm.trans (i8.mp q))], rfl⟩ dJ1_indexOfChar_4cfef_24 hw
  refine lv_iload_n hx hb dJ1_indexOfChar_4cfef_0 rfl (lv_at hl 1 rfl) ?_
  refine lv_i2b hx hb dJ1_indexOfChar_4cfef_1 rfl ?_
  refine lv_istore (lv' := [(4, .int (nI n).toInt8.toInt32), (0, .ref (g.2.2.2 (7 + i))), (1, .int (nI n)), (2, .int 0), (3, .int (xs_len i))]) hx hb dJ1_indexOfChar_4cfef_2 hl (by decide) rfl (fun ls hl => ?_)
  refine lv_iload_n hx hb dJ1_indexOfChar_4cfef_4 rfl (lv_at hl 3 rfl) ?_
  refine lv_istore (lv' := [(5, .int 0), (4, .int (nI n).toInt8.toInt32), (0, .ref (g.2.2.2 (7 + i))), (1, .int (nI n)), (2, .int 0), (3, .int (xs_len i))]) hx hb dJ1_indexOfChar_4cfef_5 hl (by decide) rfl (fun ls hl => ?_)
  exact hL _ 0 ls (by omega) rfl rfl hl
theorem xs_out {i : Nat} (hi : i < 6) {k : Int32} (h : k < 0 ∨ 255 < k) : xs_ix i k = -1 := by
  obtain ⟨o1, -⟩ := xs_ok i hi
  have key : ∀ (r : List Int32) (j : Nat), (∀ b ∈ r, ¬ b = k) → xs_f k r j = -1 := by
    intro r
    induction r with
    | nil => intro j _; rfl
    | cons b r ih => intro j hb; rw [xs_f, if_neg (hb b List.mem_cons_self)]; exact ih _ (fun b h => hb b (List.mem_cons_of_mem _ h))
  refine key _ _ (fun b hb e => ?_)
  obtain ⟨j, hj, ej⟩ := List.getElem_of_mem hb
  have h1 := xs_pos i hi j (by omega)
  have h2 : xs_b i j = b := by
    unfold xs_b
    rw [List.getD_eq_getElem?_getD, List.getElem?_eq_getElem hj, ej]
    rfl
  rw [h2, e] at h1
  rcases h with h | h
  · exact absurd h (Int32.not_lt.mpr h1.1)
  · exact absurd h (Int32.not_lt.mpr h1.2)
theorem mJ_lindexOf (l : Launch) (g : xG) {i : Nat} (hi : i < 6) {k : Int32} {M : xM} : x_cI l g 0 yJ1_indexOf_4cfef cJ1_indexOf_4cfef 4 .int 1 25 [.ref (g.2.2.2 (7 + i)), .int k, .int 0, .int (xs_len i)] M (fun v N => v = xs_ix i k ∧ N = M) := by
  refine x_stN RJ1 (by decide) rfl (Nat.le_of_ble_eq_true rfl) ?_
  intro p e s m args below meth c Q ls C hw ret hl
  obtain ⟨hx, hb, hml, hown, hB, -⟩ := id C
  have hl : lv_has ls 4 [(0, .ref (g.2.2.2 (7 + i))), (1, .int k), (2, .int 0), (3, .int (xs_len i))] := hl
  obtain ⟨o1, o2, o3, o4⟩ := xs_ok i hi
  refine lv_iload_n hx hb dJ1_indexOf_4cfef_0 rfl (lv_at hl 1 rfl) ?_
  refine x_sI C hw hl.1 [.int k] [] (mJ_canEncode l g) lkt_RJ1_88 (by decide) rfl (Nat.le_of_ble_eq_true rfl) ⟨Nat.zero_le _, Nat.zero_le _⟩ dJ1_indexOf_4cfef_1 (fun v N H locs hN hw1 => ?_)
  obtain ⟨rfl, hN⟩ := hN
  refine lv_if_ne (tgt := 9) hx hb dJ1_indexOf_4cfef_4 (by decide) (fun q => ?_) (fun q => ?_)
  · have hk : ¬ (k < 0 ∨ 255 < k) := fun z => q (if_pos z)
    obtain ⟨n, hn, rfl⟩ := nI_of (fun z => hk (Or.inl z))
    have h256 : n < 256 := by
      rcases Nat.lt_or_ge n 256 with z | z
      · exact z
      · exact absurd (Or.inr (nI_lt (a := 255) (b := n) (by omega) hn)) hk
    refine lv_iload_n hx hb dJ1_indexOf_4cfef_9 rfl (lv_at hl 2 rfl) ?_
    refine lv_iconst (v := 0) hx hb dJ1_indexOf_4cfef_10 (by decide) ?_
    refine mmt_92 C hl.1 (Nat.le_of_ble_eq_true rfl) (Nat.le_of_ble_eq_true rfl) ⟨Nat.zero_le _, Nat.zero_le _⟩ dJ1_indexOf_4cfef_11 ?_
    rw [show (if (0 : Int32) < 0 then (0 : Int32) else 0) = 0 from rfl]
    refine lv_istore_n (lv' := [(2, .int 0), (0, .ref (g.2.2.2 (7 + i))), (1, .int (nI n)), (3, .int (xs_len i))]) hx hb dJ1_indexOf_4cfef_14 rfl hl (by decide) rfl (fun ls hl => ?_)
    refine lv_iload_n hx hb dJ1_indexOf_4cfef_15 rfl (lv_at hl 3 rfl) ?_
    refine lv_aload_n hx hb dJ1_indexOf_4cfef_16 rfl (lv_at hl 1 rfl) ?_
    refine va_tlen hx hb (C.vS.1 i hi).2.2.2 hw1.2 rfl dJ1_indexOf_4cfef_17 ?_
    refine mmt_38 C hl.1 (Nat.le_of_ble_eq_true rfl) (Nat.le_of_ble_eq_true rfl) ⟨Nat.zero_le _, Nat.zero_le _⟩ dJ1_indexOf_4cfef_18 ?_
    rw [show (if Int32.ofNat (x_len.getD i 0) < xs_len i then Int32.ofNat (x_len.getD i 0) else xs_len i) = xs_len i from ite_self _]
    refine lv_istore_n (lv' := [(3, .int (xs_len i)), (2, .int 0), (0, .ref (g.2.2.2 (7 + i))), (1, .int (nI n))]) hx hb dJ1_indexOf_4cfef_21 rfl hl (by decide) rfl (fun ls hl => ?_)
    refine lv_iload_n hx hb dJ1_indexOf_4cfef_22 rfl (lv_at hl 1 rfl) ?_
    refine lv_iload_n hx hb dJ1_indexOf_4cfef_23 rfl (lv_at hl 0 rfl) ?_
    refine lv_icmp_lt (tgt := 29) hx hb dJ1_indexOf_4cfef_24 (by decide) (fun q => ?_) (fun q => absurd (nI_lt (a := 0) o3 (by omega)) q)
    refine lv_aload_n hx hb dJ1_indexOf_4cfef_29 rfl (lv_at hl 2 rfl) ?_
    refine lv_iload_n hx hb dJ1_indexOf_4cfef_30 rfl (lv_at hl 3 rfl) ?_
    refine lv_iload_n hx hb dJ1_indexOf_4cfef_31 rfl (lv_at hl 1 rfl) ?_
    refine lv_iload_n hx hb dJ1_indexOf_4cfef_32 rfl (lv_at hl 0 rfl) ?_
    refine x_sI C hw1 hl.1 [.ref (g.2.2.2 (7 + i)), .int (nI n), .int 0, .int (xs_len i)] [] (mJ_indexOfChar l g hi h256) lkt_RJ1_95 (by decide) rfl (Nat.le_of_ble_eq_true rfl) ⟨Nat.zero_le _, Nat.zero_le _⟩ dJ1_indexOf_4cfef_33 (fun v N H locs hN2 hw2 => ?_)
    exact ret rfl ⟨hN2.1, hN2.2.trans hN⟩ dJ1_indexOf_4cfef_36 hw2
  · have hk : k < 0 ∨ 255 < k := by
      rcases Classical.em (k < 0 ∨ 255 < k) with z | z
      · exact z
      · rw [if_neg z] at q
        exact absurd q (by decide)
    refine lv_iconst (v := -1) hx hb dJ1_indexOf_4cfef_7 (by decide) ?_
    exact ret rfl ⟨(xs_out hi hk).symm, hN⟩ dJ1_indexOf_4cfef_8 hw1
theorem mJ_indexOf2 (l : Launch) (g : xG) {i : Nat} (hi : i < 6) {k : Int32} {M : xM} : x_cI l g 0 yJ0_indexOf_7cf53 cJ0_indexOf_7cf53 3 .int 2 48 [.ref (g.2.2.2 (1 + i)), .int k, .int 0] M (fun v N => v = xs_ix i k ∧ N = M) := by
  refine x_stN RJ0 (by decide) rfl (Nat.le_of_ble_eq_true rfl) ?_
  intro p e s m args below meth c Q ls C hw ret hl
  obtain ⟨hx, hb, hml, hown, hB, -⟩ := id C
  have hl : lv_has ls 3 [(0, .ref (g.2.2.2 (1 + i))), (1, .int k), (2, .int 0)] := hl
  refine lv_aload_n hx hb dJ0_indexOf_7cf53_0 rfl (lv_at hl 0 rfl) ?_
  refine x_tI C hw hl.1 [] [] hi (mJ_isLatin1 l g hi) lkt_RJ0_492 (by decide) rfl (Nat.le_of_ble_eq_true rfl) ⟨Nat.zero_le _, Nat.zero_le _⟩ dJ0_indexOf_7cf53_1 (fun v N H locs hN hw1 => ?_)
  obtain ⟨rfl, hN⟩ := hN
  refine lv_if_eq (tgt := 23) hx hb dJ0_indexOf_7cf53_4 (by decide) (fun q => absurd q (by decide)) (fun q => ?_)
  refine lv_aload_n hx hb dJ0_indexOf_7cf53_7 rfl (lv_at hl 0 rfl) ?_
  refine vk_getf hx hb (C.vS.1 i hi).2.2.1 hw1.2 hown (hB _ kf_9) (fun _ h => h) dJ0_indexOf_7cf53_8 ?_
  refine lv_iload_n hx hb dJ0_indexOf_7cf53_11 rfl (lv_at hl 1 rfl) ?_
  refine lv_iload_n hx hb dJ0_indexOf_7cf53_12 rfl (lv_at hl 2 rfl) ?_
  refine lv_aload_n hx hb dJ0_indexOf_7cf53_13 rfl (lv_at hl 0 rfl) ?_
  refine x_tI C hw1 hl.1 [] [.int 0, .int k, .ref (g.2.2.2 (7 + i))] hi (mJ_length l g hi) lkt_RJ0_505 (by decide) rfl (Nat.le_of_ble_eq_true rfl) ⟨Nat.zero_le _, Nat.zero_le _⟩ dJ0_indexOf_7cf53_14 (fun v N H locs hN2 hw2 => ?_)
  obtain ⟨rfl, hN2⟩ := hN2
  refine x_sI C hw2 hl.1 [.ref (g.2.2.2 (7 + i)), .int k, .int 0, .int (xs_len i)] [] (mJ_lindexOf l g hi) lkt_RJ0_637 (by decide) rfl (Nat.le_of_ble_eq_true rfl) ⟨Nat.zero_le _, Nat.zero_le _⟩ dJ0_indexOf_7cf53_17 (fun v N H locs hN3 hw3 => ?_)
  refine lv_goto (tgt := 36) hx hb dJ0_indexOf_7cf53_20 (by decide) ?_
  exact ret rfl ⟨hN3.1, hN3.2.trans (hN2.trans hN)⟩ dJ0_indexOf_7cf53_36 hw3
theorem mJ_indexOf (l : Launch) (g : xG) {i : Nat} (hi : i < 6) {k : Int32} {M : xM} : x_cI l g 0 yJ0_indexOf_0f7a4 cJ0_indexOf_0f7a4 2 .int 3 70 [.ref (g.2.2.2 (1 + i)), .int k] M (fun v N => v = xs_ix i k ∧ N = M) := by
  refine x_stN RJ0 (by decide) rfl (Nat.le_of_ble_eq_true rfl) ?_
  intro p e s m args below meth c Q ls C hw ret hl
  obtain ⟨hx, hb, hml, hown, hB, -⟩ := id C
  have hl : lv_has ls 2 [(0, .ref (g.2.2.2 (1 + i))), (1, .int k)] := hl
  refine lv_aload_n hx hb dJ0_indexOf_0f7a4_0 rfl (lv_at hl 0 rfl) ?_
  refine lv_iload_n hx hb dJ0_indexOf_0f7a4_1 rfl (lv_at hl 1 rfl) ?_
  refine lv_iconst (v := 0) hx hb dJ0_indexOf_0f7a4_2 (by decide) ?_
  refine x_tI C hw hl.1 [.int k, .int 0] [] hi (mJ_indexOf2 l g hi) lkt_RJ0_633 (by decide) rfl (Nat.le_of_ble_eq_true rfl) ⟨Nat.zero_le _, Nat.zero_le _⟩ dJ0_indexOf_0f7a4_3 (fun v N H locs hN hw1 => ?_)
  exact ret rfl hN dJ0_indexOf_0f7a4_6 hw1
theorem mJ_heading (l : Launch) (g : xG) {a : Int32} {M : xM} : x_cR l g 0 yX6_heading cX6_heading 1 (.object "java/lang/String") 0 0 [.int a] M (g.2.2.2 (1 + xs_hd a)) := by
  refine x_stR RX6 (by decide) rfl (Nat.le_of_ble_eq_true rfl) ?_
  intro p e s m args below meth c Q ls C hw ret hl
  obtain ⟨hx, hb, hml, hown, hB, -⟩ := id C
  have hl : lv_has ls 1 [(0, .int a)] := hl
  refine lv_iload_n hx hb dX6_heading_0 rfl (lv_at hl 0 rfl) ?_
  refine lv_if_ne (tgt := 7) hx hb dX6_heading_1 (by decide) (fun q => ?_) (fun q => ?_)
  · refine lv_iload_n hx hb dX6_heading_7 rfl (lv_at hl 0 rfl) ?_
    refine lv_iconst (v := 1) hx hb dX6_heading_8 (by decide) ?_
    refine lv_icmp_ne (tgt := 17) hx hb dX6_heading_9 (by decide) (fun q2 => ?_) (fun q2 => ?_)
    · refine va_ldcS hx hb hown C.tX.2.2.1 dX6_heading_17 ?_
      exact ret (by unfold xs_hd; rw [if_neg q, if_neg q2]) dX6_heading_19
    · refine va_ldcS hx hb hown C.tX.2.1 dX6_heading_12 ?_
      refine lv_goto (tgt := 19) hx hb dX6_heading_14 (by decide) ?_
      exact ret (by unfold xs_hd; rw [if_neg q, if_pos q2]) dX6_heading_19
  · refine va_ldcS hx hb hown C.tX.1 dX6_heading_4 ?_
    exact ret (by unfold xs_hd; rw [if_pos q]) dX6_heading_6
theorem mJ_namesOf (l : Launch) (g : xG) {a : Int32} {M : xM} : x_cR l g 0 yX6_namesOf cX6_namesOf 1 (.object "java/lang/String") 0 0 [.int a] M (g.2.2.2 (1 + xs_nm a)) := by
  refine x_stR RX6 (by decide) rfl (Nat.le_of_ble_eq_true rfl) ?_
  intro p e s m args below meth c Q ls C hw ret hl
  obtain ⟨hx, hb, hml, hown, hB, -⟩ := id C
  have hl : lv_has ls 1 [(0, .int a)] := hl
  refine lv_iload_n hx hb dX6_namesOf_0 rfl (lv_at hl 0 rfl) ?_
  refine lv_if_ne (tgt := 7) hx hb dX6_namesOf_1 (by decide) (fun q => ?_) (fun q => ?_)
  · refine lv_iload_n hx hb dX6_namesOf_7 rfl (lv_at hl 0 rfl) ?_
    refine lv_iconst (v := 1) hx hb dX6_namesOf_8 (by decide) ?_
    refine lv_icmp_ne (tgt := 17) hx hb dX6_namesOf_9 (by decide) (fun q2 => ?_) (fun q2 => ?_)
    · refine va_ldcS hx hb hown C.tX.2.2.2.2.2 dX6_namesOf_17 ?_
      exact ret (by unfold xs_nm; rw [if_neg q, if_neg q2]) dX6_namesOf_19
    · refine va_ldcS hx hb hown C.tX.2.2.2.2.1 dX6_namesOf_12 ?_
      refine lv_goto (tgt := 19) hx hb dX6_namesOf_14 (by decide) ?_
      exact ret (by unfold xs_nm; rw [if_neg q, if_pos q2]) dX6_namesOf_19
  · refine va_ldcS hx hb hown C.tX.2.2.2.1 dX6_namesOf_4 ?_
    exact ret (by unfold xs_nm; rw [if_pos q]) dX6_namesOf_6
