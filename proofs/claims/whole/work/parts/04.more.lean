section XM
variable {p : Program} {l : Launch} {e : Env} {R : Room} {s : State} {m : MethodId} {args : Array Value} {below : List Frame} {meth : Method} {c : Code} {H : Heap} {locs : List Loc} {cells slots : Nat} {Q : State → Prop}
variable {cc : ByteArray} {pc nL : Nat} {ls : Array Slot} {rest : List Value} {own : String} {g : xG} {sh : Nat} {M : xM}
theorem x_zst (C : x_C g sh p s m args c cc nL own) (hw : x_w g sh s H locs M) {k j : Nat} {i v : Int32} (hk : x_is sh k 13) (hin : vp_in i (xn sh k)) (hn : narrow .boolean (.int v) = .int v) (hj : i.toNatClampNeg = j) (hdg : decode cc pc = .ok (.bastore, 1))
    (kk : ∀ (H1 : Heap) (locs1 : List Loc), x_w g sh s H1 locs1 (x_up M k j v) → W p l e R s m args below meth c H1 locs1 cells slots Q (F0 m (pc + 1) ls rest)) : W p l e R s m args below meth c H locs cells slots Q (F0 m pc ls (.int v :: .int i :: .ref (g.2.2.1 k) :: rest)) := by
  obtain ⟨hx, hb, -, hown, hts, hK, hNs, hi, -⟩ := C
  refine va_zast (D := g.1) (tys := x_T g) (A := x_A g sh s.heap.size) hx hb hK hw.1 (x_D hi) hw.2 k 1 ((x_W_get hk.1).trans (by rw [x_Ez hk])) rfl hin hdg (fun H1 locs1 h1 h2 h3 => ?_)
  have hv : vp_nar .boolean v = v := by
    unfold vp_nar
    rw [hn]
  rw [hv, x_W_upz hk, hj] at h1
  exact kk H1 locs1 ⟨h1, h3⟩
theorem x_rrld (C : x_C g sh p s m args c cc nL own) (hw : x_w g sh s H locs M) {k k2 : Nat} {i : Int32} (hk : x_is sh k 18) (hin : vp_in i (xn sh k)) (hq : xr sh k i.toNatClampNeg = k2) (hdg : decode cc pc = .ok (.aaload, 1))
    (kk : W p l e R s m args below meth c H locs cells slots Q (F0 m (pc + 1) ls (.ref (g.2.2.1 k2) :: rest))) : W p l e R s m args below meth c H locs cells slots Q (F0 m pc ls (.int i :: .ref (g.2.2.1 k) :: rest)) := by
  subst hq
  obtain ⟨hx, hb, -, hown, hts, hK, hNs, hi, -⟩ := C
  have ha : (x_W g sh M)[k]? = some (g.2.2.1 k, .inl (g.2.1 6, xn sh k, .inr (.inr (.inr (.inr (fun j => some (g.2.2.1 (xr sh k j)))))))) := (x_W_get hk.1).trans (by rw [x_Eq hk (by decide)])
  have hlt : i.toNatClampNeg < xn sh k := Nat.not_le.mp fun q => hin (Or.inr q)
  exact W.aald (v := .ref (g.2.2.1 (xr sh k i.toNatClampNeg))) (ty := .array .int) hx hb (hw.1 k _ ha) ((hK.2 6 _ rfl).1 (xn sh k) (fun j => va_rf (some (g.2.2.1 (xr sh k j))))) rfl (fun q => by cases q) (by show ¬ (i < 0 ∨ (arrV _ _ _).slots.size ≤ _); rw [arrV_size]; exact hin) (by show (arrV _ _ _).slots[_]? = _; rw [arrV_read _ _ hlt]; rfl) rfl rfl hdg kk
/-- a copy of places from one array to another -/
def x_mv (M : xM) (a b sp dp n : Nat) : xM := fun q => if q = b then va_cpy (M a) (M b) sp dp n else M q
def x_cp {β : Type} (sp dp n : Int32) (n0 n1 : Nat) (k : Option β) : Option β := if sp < 0 ∨ dp < 0 ∨ n < 0 ∨ n0 < sp.toNatClampNeg + n.toNatClampNeg ∨ n1 < dp.toNatClampNeg + n.toNatClampNeg then none else k
theorem x_cpE {β : Type} {sp dp n : Int32} {n0 n1 : Nat} {k : Option β} {r : β} (h : x_cp sp dp n n0 n1 k = some r) : ¬ (sp < 0 ∨ dp < 0 ∨ n < 0 ∨ n0 < sp.toNatClampNeg + n.toNatClampNeg ∨ n1 < dp.toNatClampNeg + n.toNatClampNeg) ∧ k = some r := by
  unfold x_cp at h
  by_cases q : sp < 0 ∨ dp < 0 ∨ n < 0 ∨ n0 < sp.toNatClampNeg + n.toNatClampNeg ∨ n1 < dp.toNatClampNeg + n.toNatClampNeg
  · rw [if_pos q] at h
    cases h
  · rw [if_neg q] at h
    exact ⟨q, h⟩
theorem x_copy (C : x_C g sh p s m args c cc nL own) (hw : x_w g sh s H locs M) (hl : ls.size = nL) {index k0 k1 : Nat} {sp dp n : Int32} (hlink : Cond.methodLink own index arraycopyName ∈ x_tb) (hnat : Cond.native arraycopyName ∈ x_tb) (hstat : Cond.static arraycopyName ∈ x_tb) (hini : Cond.initialized "java/lang/System" ∈ x_tb) (h0 : x_is sh k0 12) (h1 : x_is sh k1 12)
    (hq : ¬ (sp < 0 ∨ dp < 0 ∨ n < 0 ∨ xn sh k0 < sp.toNatClampNeg + n.toNatClampNeg ∨ xn sh k1 < dp.toNatClampNeg + n.toNatClampNeg)) (hlo : (rest.map fun v => v.category).sum + (nativeFrameWords "java/lang/System" "arraycopy" 5 + 11) ≤ R.locals) (hfr : 1 ≤ R.frames) (hdg : decode cc pc = .ok (.invokestatic index, 3))
    (kk : ∀ (H1 : Heap) (locs1 : List Loc), x_w g sh s H1 locs1 (x_mv M k0 k1 sp.toNatClampNeg dp.toNatClampNeg n.toNatClampNeg) → W p l e R s m args below meth c H1 locs1 cells slots Q (F0 m (pc + 3) ls rest)) : W p l e R s m args below meth c H locs cells slots Q (F0 m pc ls (.int n :: .int dp :: .ref (g.2.2.1 k1) :: .int sp :: .ref (g.2.2.1 k0) :: rest)) := by
  obtain ⟨hx, hb, hml, hown, hts, hK, hNs, hi, -⟩ := C
  refine va_copyi (D := g.1) (tys := x_T g) (A := x_A g sh s.heap.size) (ty := .int) hx hb (hml.trans hl.symm) hown (hts _ hlink) (hts _ hnat) (hts _ hstat) (hts _ hini) hK hw.1 (x_D hi) hw.2 k0 k1 0 0 ((x_W_get h0.1).trans (by rw [x_Ei h0])) ((x_W_get h1.1).trans (by rw [x_Ei h1])) rfl rfl rfl (fun z => hq (Or.inl z)) (fun z => hq (Or.inr (Or.inl z))) (fun z => hq (Or.inr (Or.inr (Or.inl z)))) (Nat.not_lt.mp fun z => hq (Or.inr (Or.inr (Or.inr (Or.inl z))))) (Nat.not_lt.mp fun z => hq (Or.inr (Or.inr (Or.inr (Or.inr z))))) (fun _ _ => rfl) hfr hlo hdg (fun H1 locs1 a1 a2 a3 => ?_)
  have he : (x_W g sh M).set k1 (g.2.2.1 k1, .inl (g.2.1 0, xn sh k1, .inl (va_cpy (M k0) (M k1) sp.toNatClampNeg dp.toNatClampNeg n.toNatClampNeg))) = x_W g sh (x_mv M k0 k1 sp.toNatClampNeg dp.toNatClampNeg n.toNatClampNeg) := by
    refine x_W_set h1.1 (fun i hi => x_E_ne (if_neg hi)) ?_
    rw [x_Ei h1]
    have hm : x_mv M k0 k1 sp.toNatClampNeg dp.toNatClampNeg n.toNatClampNeg k1 = va_cpy (M k0) (M k1) sp.toNatClampNeg dp.toNatClampNeg n.toNatClampNeg := if_pos rfl
    rw [hm]
  rw [he] at a1
  exact kk H1 locs1 ⟨a1, a3⟩
theorem x_most_get (C : x_C g sh p s m args c cc nL "DayFines") (hw : x_w g sh s H locs M) (hdg : decode cc pc = .ok (.getstatic 125, 3))
    (kk : W p l e R s m args below meth c H locs cells slots Q (F0 m (pc + 3) ls (.ref (g.2.2.2 0) :: rest))) : W p l e R s m args below meth c H locs cells slots Q (F0 m pc ls rest) := by
  obtain ⟨hx, hb, -, hown, hts, hK, hNs, hi, hZ, hT⟩ := C
  exact va_gets hx hb hZ hw.2 hown (hts (.fieldLink "DayFines" 125 "DayFines" "RULE_AT_MOST" "[I") (x_mem (i := 520) (by decide +kernel) (by decide +kernel))) (fun _ h => h) hdg kk
theorem x_most_ld (C : x_C g sh p s m args c cc nL own) (hw : x_w g sh s H locs M) {i : Int32} (hin : vp_in i 16) (hdg : decode cc pc = .ok (.iaload, 1))
    (kk : W p l e R s m args below meth c H locs cells slots Q (F0 m (pc + 1) ls (.int (x_most i.toNatClampNeg) :: rest))) : W p l e R s m args below meth c H locs cells slots Q (F0 m pc ls (.int i :: .ref (g.2.2.2 0) :: rest)) := by
  obtain ⟨hx, hb, -, hown, hts, hK, hNs, hi, hZ, hT, -⟩ := C
  exact va_ti hx hb hT hw.2 hin rfl hdg kk
end XM
