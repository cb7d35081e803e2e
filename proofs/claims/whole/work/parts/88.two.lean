/-! THE CLAIM OUT OF ONE WALK OF THE LAW'S BODY. Your part is whole_start (and what it stands on); all else here is the same for every law, but numbers. -/
def R_law : String := "DayFinesLaw"
def lw_P (b : Addr) (xs : List Int32) (args : Array Value) (s : State) : Prop := args = #[.ref b] ∧ s.IntsAt b xs ∧ xs.length ≤ 3072 ∧ (Jvm.Cond.and given_1 narrow_1).before args s = true
def lw_Q (_ : Array Value) (s : State) (o : Outcome) (t : State) : Prop := o = .returned (some (.int 1)) ∧ Framed s o t [] 600000 7302250
def lw_Z (below : List Frame) (a : Array Value) (s : State) : State → Prop := fun t => ∃ o, t.status = .running ∧ Ended t below o ∧ lw_Q a s o t
/-- the law's own end, with 1 on the stack, nothing written that was there before, its room as the claim has it -/
theorem lw_ret {p : Program} {l : Launch} {e : Env} {s : State} {m : MethodId} {below : List Frame} {meth : Method} {c : Code} {b : Nat} (hx : p.tables.exec = Jvm.exec) (hb : c.code = code) (hr : meth.sig.returnType = ret) (hlocks : meth.locks = false) {pc : Nat} {H : Heap} {ls : Array Slot} (hdg : decode code pc = .ok (.ireturn, 1)) : W p l e room_1 s m #[Value.ref b] below meth c H [] 600000 7302250 (lw_Z below #[Value.ref b] s) (F0 m pc ls [.int 1]) := by
  intro T hT X
  obtain ⟨fs, hret, hrun, hended, hW, hframe⟩ := X.leave (v := some (.int 1)) (hlocks := hlocks) (fun h => by rw [hr] at h; cases h)
  have hmeth' : T.vm.method? m = some meth := X.method'
  refine ⟨T.setFrames fs, ?_, .returned (some (.int 1)), hrun, hended, rfl, ⟨_, rfl⟩, hW, hframe⟩
  jvm_step X.here [X.here.top, hx, hb, hdg, hmeth', hr, ret, narrow_b1]
  (try refine ⟨rfl, ?_⟩); (try refine ⟨rfl, ?_⟩)
  first | (intro acts; rw [hret _ acts rfl rfl rfl]) | rw [hret _ _ rfl rfl rfl]
  exact Steps.refl _
/-- what holds at the law's entry: the machine, the code, the tables' words (any of lw_tbl by 'hts w (by decide +kernel)'), the script of L ints xs at the cell b, what the Statement gives of the start (any of its parts by flat_of_before) -/
def lw_At (p : Program) (s : State) (m : MethodId) (meth : Method) (c : Code) (b L : Nat) (xs : Nat → Int32) : Prop :=
  p.tables.exec = Jvm.exec ∧ c.code = code ∧ meth.sig.returnType = ret ∧ c.maxLocals = 4 ∧ s.vm.findClass R_law = some m.cls ∧ (∀ w ∈ lw_tbl, w.before #[Value.ref b] s = true) ∧ va_X b L xs s s.heap ∧ b < s.heap.size ∧ meth.locks = false ∧ (Jvm.Cond.and given_1 narrow_1).before #[Value.ref b] s = true
/-! both worlds in one heap, of cells that are all new -/
def zz_G (g : xG) (sh : Nat) (s : State) : Prop := va_K g.1 vwCl (x_T g) s ∧ x_Ns s ∧ x_inj g sh ∧ x_Sx g (fun q => s.heap.size ≤ q) s s.heap ∧ ∀ k, k < xN sh → s.heap.size ≤ g.2.2.1 k
theorem zz_far {g : xG} {sh n : Nat} {s : State} (G : zz_G g sh s) (hn : s.heap.size ≤ n) : ∀ q, x_A g sh n q → s.heap.size ≤ q := by
  intro q h
  rcases h with ⟨k, hk, rfl⟩ | h
  · exact G.2.2.2.2 k hk
  · exact Nat.le_trans hn h
theorem zz_K {g : xG} {sh : Nat} {s : State} (G : zz_G g sh s) : x_K g sh s :=
  ⟨G.1, G.2.1, G.2.2.1, G.2.2.2.1.1.narrow (zz_far G (Nat.le_refl _)), G.2.2.2.1.2.1.narrow (zz_far G (Nat.le_refl _)), G.2.2.2.1.2.2.1.mv (Vm.Alike.refl _) (fun _ _ _ => rfl) (zz_far G (Nat.le_refl _)), G.2.2.2.1.2.2.2⟩
def zz_w (g0 g1 : xG) (s : State) (H : Heap) (locs : List Loc) (C M : xM) : Prop := va_P g0.1 vwCl (x_W g0 0 C) H ∧ va_P g1.1 vwCl (x_W g1 1 M) H ∧ va_S (fun q => s.heap.size ≤ q) s.heap H locs
def zz_Z (p : Program) (s : State) (m : MethodId) (b L : Nat) (xs : Nat → Int32) (c : Code) (g0 g1 : xG) : Prop := x_C g0 0 p s m #[Value.ref b] c cL_law 4 RL ∧ x_C g1 1 p s m #[Value.ref b] c cL_law 4 RL ∧ zz_G g0 0 s ∧ zz_G g1 1 s ∧ (∀ i j, i < 351 → j < 16 → g0.2.2.1 i ≠ g1.2.2.1 j) ∧ va_X b L xs s s.heap ∧ b < s.heap.size
def zz_in (x : Int32) (L : Nat) : Prop := vp_in (x + 1) L ∧ vp_in (x + 2) L ∧ vp_in (x + 3) L ∧ vp_in (x + 4) L ∧ vp_in (x + 5) L
theorem zz_room {i L : Nat} (hL : L ≤ 3072) (hi : i ≤ 3078) (h : ¬ Int32.ofNat L - 6 < nI i) : i + 6 ≤ L := by
  apply Nat.not_lt.mp
  intro q
  apply h
  rw [Int32.lt_iff_toInt_lt, nI_toInt (by omega), Int32.toInt_sub, show (Int32.ofNat L).toInt = (L : Int) from nI_toInt (n := L) (by omega), show (6 : Int32).toInt = 6 from rfl, Int.bmod_eq_of_le (by omega) (by omega)]
  omega
theorem zz_ins {i L : Nat} (hL : L ≤ 3072) (h : i + 6 ≤ L) : zz_in (nI i) L :=
  ⟨nI_add i 1 ▸ vp_in_nI (by omega) (by omega), nI_add i 2 ▸ vp_in_nI (by omega) (by omega), nI_add i 3 ▸ vp_in_nI (by omega) (by omega), nI_add i 4 ▸ vp_in_nI (by omega) (by omega), nI_add i 5 ▸ vp_in_nI (by omega) (by omega)⟩
/-- a world's cells keep when the other is worked on -/
theorem zz_keep {g g' : xG} {sh sh' : Nat} {M : xM} {H H1 : Heap} (hP : va_P g.1 vwCl (x_W g sh M) H) (ap : ∀ i j, i < xN sh → j < xN sh' → g.2.2.1 i ≠ g'.2.2.1 j) (hk : ∀ q : Nat, q < H.size → ¬ x_A g' sh' H.size q → H1[q]? = H[q]?) : va_P g.1 vwCl (x_W g sh M) H1 := by
  refine hP.kept (fun k q hq => ?_)
  have hl := (hP k q hq).lt
  refine hk q.1 hl ?_
  have hkl : k < xN sh := by
    have := (List.getElem?_eq_some_iff.mp hq).1
    unfold x_W at this
    rwa [List.length_map, List.length_range] at this
  rw [x_W_get hkl] at hq
  cases hq
  rintro (⟨j, hj, h⟩ | h)
  · exact ap k j hkl hj h
  · exact absurd h (Nat.not_le.mpr hl)
section ZC
variable {p : Program} {l : Launch} {e : Env} {R : Room} {s : State} {m : MethodId} {args : Array Value} {below : List Frame} {meth : Method} {c : Code} {H : Heap} {locs : List Loc} {cells slots : Nat} {Q : State → Prop}
variable {cc : ByteArray} {pc nL : Nat} {ls : Array Slot} {rest : List Value} {own : String} {g : xG} {sh : Nat} {M : xM}
variable {y : MethodName} {bc : ByteArray} {mL fr lo idx n : Nat} {rt : FieldType} {As : List Value} {k ci : Nat} {Cn : String} {vc : u_T × Nat}
theorem zz_call {post : Int32 → xM → Prop} (C : x_C g sh p s m args c cc nL own) (G : zz_G g sh s) (hP : va_P g.1 vwCl (x_W g sh M) H) (hS : va_S (fun q => s.heap.size ≤ q) s.heap H locs) (hl : ls.size = nL) (As rest : List Value) (hM : x_cI l g sh y bc mL rt fr lo (.ref (g.2.2.1 k) :: As) M post) (L : x_lV own idx Cn y bc mL (some rt) n) (hk : x_is sh k ci) (hci : ci < 12) (hc : vwCl[ci]? = some (Cn, vc)) (hR : fr + 1 ≤ R.frames ∧ 8 + (mL + 11) + lo ≤ R.locals) (hn : As.length = n) (hr : (rest.map fun v => v.category).sum ≤ 8) (hcs : cells ≤ R.cells ∧ slots ≤ R.slots) (hdg : decode cc pc = .ok (.invokevirtual idx, 3))
    (kk : ∀ (v : Int32) (N : xM) (H1 : Heap) (locs1 : List Loc), post v N → va_P g.1 vwCl (x_W g sh N) H1 → (∀ q : Nat, q < H.size → ¬ x_A g sh H.size q → H1[q]? = H[q]?) → va_S (fun q => s.heap.size ≤ q) s.heap H1 locs1 → W p l e R s m args below meth c H1 locs1 cells slots Q (F0 m (pc + 3) ls (.int v :: rest))) : W p l e R s m args below meth c H locs cells slots Q (F0 m pc ls (As.reverse ++ .ref (g.2.2.1 k) :: rest)) := by
  have hw : x_w g sh s H locs M := ⟨hP, hS.1, fun q h1 h2 => hS.2.1 q h1 (fun z => h2 (Or.inr z)), fun q hq => Or.inr (hS.2.2 q hq)⟩
  refine va_calli (A0 := fun q => s.heap.size ≤ q) (va_runV (As := As) (rest := rest) ⟨C.1, C.2.1, C.2.2.1, C.2.2.2.1, C.2.2.2.2.1⟩ (hM H.size) (x_cw C L hR) ⟨x_blind, x_rcv C hw hk hci hc, x_at C hw⟩ rfl hn hl rfl (lv_room hr) hdg hcs) hS (fun q _ h => zz_far G hS.1 q h) (fun q h => zz_far G hS.1 q h) (fun v N t H1 locs1 ht hvm hp hB _ hk1 hS1 => ?_)
  exact kk v N H1 locs1 hp (by rw [← ht]; exact hB) hk1 hS1
end ZC
section ZD
variable {p : Program} {l : Launch} {e : Env} {s : State} {m : MethodId} {below : List Frame} {meth : Method} {c : Code} {H : Heap} {locs : List Loc} {Q : State → Prop} {ls : Array Slot} {g0 g1 : xG} {C M : xM} {b L pc : Nat} {xs : Nat → Int32} {x3 : Int32} {rest : List Value}
variable {y : MethodName} {bc : ByteArray} {mL fr lo idx n : Nat} {rt : FieldType}
theorem zz_arg {j : Int32} {jj : Int} {r1 r2 : Value} (Z : zz_Z p s m b L xs c g0 g1) (hw : zz_w g0 g1 s H locs C M) (hl : lv_has ls 4 [(3, .int x3), (2, r2), (1, r1), (0, .ref b)]) (hin : vp_in (x3 + j) L) (h1 : decode cL_law pc = .ok (.aload_n 0, 1)) (h2 : decode cL_law (pc + 1) = .ok (.iload_n 3, 1)) (h3 : decode cL_law (pc + 2) = .ok (.iconst jj, 1)) (hj : Int32.ofInt jj = j) (h4 : decode cL_law (pc + 3) = .ok (.iadd, 1)) (h5 : decode cL_law (pc + 4) = .ok (.iaload, 1))
    (kk : W p l e room_1 s m #[Value.ref b] below meth c H locs 600000 7302250 Q (F0 m (pc + 5) ls (.int (xs (x3 + j).toNatClampNeg) :: rest))) : W p l e room_1 s m #[Value.ref b] below meth c H locs 600000 7302250 Q (F0 m pc ls rest) := by
  obtain ⟨hx, hb, -⟩ := id Z.1
  have hbl := Z.2.2.2.2.2.2
  have hbA : ¬ (fun q : Nat => s.heap.size ≤ q) b := Nat.not_le.mpr hbl
  refine lv_aload_n hx hb h1 rfl (lv_at hl 3 rfl) ?_
  refine lv_iload_n hx hb h2 rfl (lv_at hl 0 rfl) ?_
  refine lv_iconst (v := j) hx hb h3 hj ?_
  refine lv_iadd hx hb h4 ?_
  exact va_sld hx hb Z.2.2.2.2.2.1 hbl hbA hw.2.2 hin h5 kk
theorem zz_c0 {r : Int32} {C1 : xM} (Z : zz_Z p s m b L xs c g0 g1) (hw : zz_w g0 g1 s H locs C M) (hl : ls.size = 4) (As rest : List Value) (hM : x_cI l g0 0 y bc mL rt fr lo (.ref (g0.2.2.1 0) :: As) C (fun v N => v = r ∧ N = C1)) (K : x_lV RL idx RX10 y bc mL (some rt) n) (hR : fr + 1 ≤ room_1.frames ∧ 8 + (mL + 11) + lo ≤ room_1.locals) (hn : As.length = n) (hr : (rest.map fun v => v.category).sum ≤ 8) (hdg : decode cL_law pc = .ok (.invokevirtual idx, 3))
    (kk : ∀ (H1 : Heap) (locs1 : List Loc), zz_w g0 g1 s H1 locs1 C1 M → W p l e room_1 s m #[Value.ref b] below meth c H1 locs1 600000 7302250 Q (F0 m (pc + 3) ls (.int r :: rest))) : W p l e room_1 s m #[Value.ref b] below meth c H locs 600000 7302250 Q (F0 m pc ls (As.reverse ++ .ref (g0.2.2.1 0) :: rest)) := by
  refine zz_call Z.1 Z.2.2.1 hw.1 hw.2.2 hl As rest hM K ic0_0 (by decide) rfl hR hn hr ⟨Nat.le_of_ble_eq_true rfl, Nat.le_of_ble_eq_true rfl⟩ hdg (fun v N H1 locs1 hN hP hk hS => ?_)
  obtain ⟨rfl, rfl⟩ := hN
  exact kk H1 locs1 ⟨hP, zz_keep (sh := 1) (sh' := 0) (g' := g0) hw.2.1 (fun i j hi hj h => Z.2.2.2.2.1 j i hj hi h.symm) hk, hS⟩
theorem zz_c1 {r : Int32} {M1 : xM} (Z : zz_Z p s m b L xs c g0 g1) (hw : zz_w g0 g1 s H locs C M) (hl : ls.size = 4) (As rest : List Value) (hM : x_cI l g1 1 y bc mL rt fr lo (.ref (g1.2.2.1 0) :: As) M (fun v N => v = r ∧ N = M1)) (K : x_lV RL idx RX11 y bc mL (some rt) n) (hR : fr + 1 ≤ room_1.frames ∧ 8 + (mL + 11) + lo ≤ room_1.locals) (hn : As.length = n) (hr : (rest.map fun v => v.category).sum ≤ 8) (hdg : decode cL_law pc = .ok (.invokevirtual idx, 3))
    (kk : ∀ (H1 : Heap) (locs1 : List Loc), zz_w g0 g1 s H1 locs1 C M1 → W p l e room_1 s m #[Value.ref b] below meth c H1 locs1 600000 7302250 Q (F0 m (pc + 3) ls (.int r :: rest))) : W p l e room_1 s m #[Value.ref b] below meth c H locs 600000 7302250 Q (F0 m pc ls (As.reverse ++ .ref (g1.2.2.1 0) :: rest)) := by
  refine zz_call Z.2.1 Z.2.2.2.1 hw.2.1 hw.2.2 hl As rest hM K ic1_0 (by decide) rfl hR hn hr ⟨Nat.le_of_ble_eq_true rfl, Nat.le_of_ble_eq_true rfl⟩ hdg (fun v N H1 locs1 hN hP hk hS => ?_)
  obtain ⟨rfl, rfl⟩ := hN
  exact kk H1 locs1 ⟨zz_keep (sh := 0) (sh' := 1) (g' := g1) hw.1 (fun i j hi hj h => Z.2.2.2.2.1 i j hi hj h) hk, hP, hS⟩
end ZD
