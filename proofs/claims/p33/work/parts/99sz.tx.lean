/-! rows for texts: receivers that were there before, methods of a class above, super.m(..), copies, texts -/
section TX
variable {M M' : qq_M} {hp : qq_H} {bc bs mc ms pc idx n : Nat} {loc : List (Nat × Value)} {as rest : List Value} {P P' : Option Value → qq_H → Prop} {PX PX' : String → qq_H → Prop}
theorem qq_recv {p : Program} {l : Launch} {R : Room} {s : State} {m : MethodId} {args : Array Value} {meth : Method} {c : Code} {H : Heap} {locs : List Loc} {cells slots : Nat} {ls : Array Slot} {D : qq_D} {base : Nat} {ad : Nat → Nat} {stk : List Value} {o ci : Nat} {r : vw_C} {fs : List Value} (C1 : qq_Cx M D base ad hp p l R s m args meth c) (C2 : qq_Cy M D base ad hp bc bs loc stk R s H locs cells slots ls) (ho2 : o < hp.1) (ho : hp.2 o = .inr (ci, fs)) (hc : vwCl[ci]? = some r) : ∃ cell : Cell, H[ad o]? = some cell ∧ cell.vm.isStatics = false ∧ s.vm.findClass r.1 = some cell.cls := by
  by_cases hE : o < qq_E
  · have hx := C1.2.2.2.2.2.2.2.2.2.2.2.2.1 o hE
    rw [ho] at hx
    obtain ⟨cell, h1, h2, h3, -⟩ := ((hx _ hc).1).kept C2.2.2.2.2.1.2.1
    exact ⟨cell, h1, h2, h3⟩
  · refine va_recv C1.2.2.2.2.2.2.2.2.2.2.2.1 (qq_RP C2.2.2.2.1) (q0 := o - qq_E) (fs := fs.map (qq_mv ad)) hc ?_
    rw [qq_wsAt (by omega) ho2, ho]
    rfl
/-- a call on an object of the method's own class, wherever it is -/
theorem qq_callVS {o ci N : Nat} {T : u_T} {fs : List Value} (hdg : decode M.cc pc = .ok (.invokevirtual idx, 3)) (ho : hp.2 o = .inr (ci, fs)) (hc : vwCl[ci]? = some (M'.y.cls, T, N)) (hM : qq_Mt M' (.ref o :: as) hp mc ms P' PX') (hh : M'.hh = []) (hw1 : Cond.methodLink M.y.cls idx M'.y ∈ lw_gd) (hw2 : Cond.instanceMethod M'.y ∈ lw_gd) (hw5 : Cond.selects M'.y.cls M'.y M'.y ∈ lw_gd) (hw3 : Cond.initialized M'.y.cls ∈ lw_gd) (hw4 : qq_cw M' ∈ lw_gd) (hd : qq_hd M'.y n) (hn : as.length = n) (hmx : M'.mx ≤ 60) (hlv : M'.lv < M.lv) (hst : (rest.map fun v => v.category).sum ≤ 8)
    (kk : ∀ (v : Option Value) (hp' : qq_H), P' v hp' → hp.1 ≤ hp'.1 → (∀ k, k < qq_E → hp'.2 k = hp.2 k) → qq_Go M hp' bc bs (pc + 3) loc (v.toList ++ rest) P PX)
    (kx : ∀ (E : String) (hp' : qq_H), PX' E hp' → hp.1 ≤ hp'.1 → (∀ k, k < qq_E → hp'.2 k = hp.2 k) → qq_GX M hp' bc bs pc loc E P PX) : qq_Go M hp (bc + mc) (bs + ms) pc loc (as.reverse ++ .ref o :: rest) P PX := by
  intro D base ad p l e R s m args below meth c H locs cells slots ls C1 C2
  obtain ⟨hwa, hwr0⟩ := qq_wrev C2.2.2.1
  have ho2 : o < hp.1 := qq_wh hwr0 o rfl
  have hwr := qq_wt hwr0
  have hM1 := hM l D base ad C1.2.2.2.2.2.2.2.2.2.2.1 (qq_wu (qq_wh hwr0) hwa)
  have ec : qq_cw M' = .code M'.y M'.cc M'.mx M'.rt := by unfold qq_cw; rw [hh]
  rw [ec] at hM1 hw4
  have cw := cwV (R := R) (s := s) (args := args) (own := M.y.cls) (C := M'.y.cls) (index := idx) (y := M'.y) (bytes := M'.cc) (maxL := M'.mx) (ret := M'.rt) (mc := mc) (ms := ms) (rm := qq_rm M' mc ms) (ws := .code M'.y M'.cc M'.mx M'.rt :: lw_gd) n C1.2.2.2.2.2.2.2.1 (qq_gin hw1 (qq_gin hw2 (qq_gin hw5 (qq_gin hw3 (qq_gin hw4 qq_ginT))))) rfl rfl rfl ⟨rfl, hd⟩ (qq_room C1 hlv hmx)
  have hp1 := qq_preS (as := .ref o :: as) C1 C2
  have hR := vx_runV (C := M'.y.cls) (b := ad o) (As := as.map (qq_mv ad)) (rest := rest.map (qq_mv ad)) (g := F0 m pc ls ((as.reverse ++ .ref o :: rest).map (qq_mv ad))) (H := H) (locs := locs) (cells := cells) (slots := slots) (below := below) (e := e) (meth := meth) ⟨C1.1, C1.2.1, C1.2.2.2.1, C1.2.2.2.2.1, C1.2.2.2.2.2.2.2.1⟩ hM1 cw ⟨hp1.1, qq_recv C1 C2 ho2 ho hc, hp1.2⟩ rfl (by rw [List.length_map]; exact hn) C2.1.1 (by show (as.reverse ++ .ref o :: rest).map _ = _; rw [List.map_append, List.map_reverse]; rfl) (lv_room (qq_sum hst)) hdg ⟨by have := C2.2.2.2.2.2.1; omega, by have := C2.2.2.2.2.2.2; omega⟩
  exact qq_run hR C1 C2 hwr kk kx
/-- a call on an object of class C of a method x, that the class Y above or C itself has -/
theorem qq_callU {o ci N : Nat} {T : u_T} {fs : List Value} {C : String} (x : MethodName) (hdg : decode M.cc pc = .ok (.invokevirtual idx, 3)) (ho : hp.2 o = .inr (ci, fs)) (hc : vwCl[ci]? = some (C, T, N)) (hM : qq_Mt M' (.ref o :: as) hp mc ms P' PX') (hh : M'.hh = []) (hyx : M'.y = ⟨M'.y.cls, x.name, x.desc⟩) (hw1 : Cond.methodLink M.y.cls idx x ∈ lw_gd) (hw6 : Cond.sameMethod x.cls M'.y.cls x.name x.desc ∈ lw_gd) (hw5 : Cond.selects C x M'.y ∈ lw_gd) (hw2 : Cond.instanceMethod M'.y ∈ lw_gd) (hw3 : Cond.initialized M'.y.cls ∈ lw_gd) (hw4 : qq_cw M' ∈ lw_gd) (hd : qq_hd M'.y n) (hdx : qq_hd x n) (hn : as.length = n) (hmx : M'.mx ≤ 60) (hlv : M'.lv < M.lv) (hst : (rest.map fun v => v.category).sum ≤ 8)
    (kk : ∀ (v : Option Value) (hp' : qq_H), P' v hp' → hp.1 ≤ hp'.1 → (∀ k, k < qq_E → hp'.2 k = hp.2 k) → qq_Go M hp' bc bs (pc + 3) loc (v.toList ++ rest) P PX)
    (kx : ∀ (E : String) (hp' : qq_H), PX' E hp' → hp.1 ≤ hp'.1 → (∀ k, k < qq_E → hp'.2 k = hp.2 k) → qq_GX M hp' bc bs pc loc E P PX) : qq_Go M hp (bc + mc) (bs + ms) pc loc (as.reverse ++ .ref o :: rest) P PX := by
  intro D base ad p l e R s m args below meth c H locs cells slots ls C1 C2
  obtain ⟨hwa, hwr0⟩ := qq_wrev C2.2.2.1
  have ho2 : o < hp.1 := qq_wh hwr0 o rfl
  have hwr := qq_wt hwr0
  have hM1 := hM l D base ad C1.2.2.2.2.2.2.2.2.2.2.1 (qq_wu (qq_wh hwr0) hwa)
  have ec : qq_cw M' = .code M'.y M'.cc M'.mx M'.rt := by unfold qq_cw; rw [hh]
  rw [ec] at hM1 hw4
  have cw := va_cwU (R := R) (s := s) (args := args) (own := M.y.cls) (C := C) (owner := M'.y.cls) (index := idx) (x := x) (y := M'.y) (bytes := M'.cc) (maxL := M'.mx) (ret := M'.rt) (mc := mc) (ms := ms) (rm := qq_rm M' mc ms) (ws := .code M'.y M'.cc M'.mx M'.rt :: lw_gd) n C1.2.2.2.2.2.2.2.1 (qq_gin hw1 (qq_gin hw6 (qq_gin hw5 (qq_gin hw2 (qq_gin hw3 (qq_gin hw4 qq_ginT)))))) rfl rfl rfl hyx ⟨hd.1, hd.2.1, hdx.2.2⟩ (qq_room C1 hlv hmx)
  have hp1 := qq_preS (as := .ref o :: as) C1 C2
  have hR := vx_runU (C := C) (b := ad o) (As := as.map (qq_mv ad)) (rest := rest.map (qq_mv ad)) (g := F0 m pc ls ((as.reverse ++ .ref o :: rest).map (qq_mv ad))) (H := H) (locs := locs) (cells := cells) (slots := slots) (below := below) (e := e) (meth := meth) ⟨C1.1, C1.2.1, C1.2.2.2.1, C1.2.2.2.2.1, C1.2.2.2.2.2.2.2.1⟩ hM1 cw ⟨hp1.1, qq_recv C1 C2 ho2 ho hc, hp1.2⟩ rfl (by rw [List.length_map]; exact hn) C2.1.1 (by show (as.reverse ++ .ref o :: rest).map _ = _; rw [List.map_append, List.map_reverse]; rfl) (lv_room (qq_sum hst)) hdg ⟨by have := C2.2.2.2.2.2.1; omega, by have := C2.2.2.2.2.2.2; omega⟩
  exact qq_run hR C1 C2 hwr kk kx
/-- .. that C overrides: what is named is another method's code (b0), that isn't run -/
theorem qq_callO {o ci N : Nat} {T : u_T} {fs : List Value} {C : String} (x : MethodName) {b0 : ByteArray} {m0 : Nat} {r0 : Option FieldType} (hdg : decode M.cc pc = .ok (.invokevirtual idx, 3)) (ho : hp.2 o = .inr (ci, fs)) (hc : vwCl[ci]? = some (C, T, N)) (hM : qq_Mt M' (.ref o :: as) hp mc ms P' PX') (hh : M'.hh = []) (h0 : Cond.code x b0 m0 r0 ∈ lw_gd) (hw1 : Cond.methodLink M.y.cls idx x ∈ lw_gd) (hw6 : Cond.sameMethod x.cls x.cls x.name x.desc ∈ lw_gd) (hw7 : Cond.instanceMethod x ∈ lw_gd) (hw5 : Cond.selects C x M'.y ∈ lw_gd) (hw2 : Cond.instanceMethod M'.y ∈ lw_gd) (hw3 : Cond.initialized M'.y.cls ∈ lw_gd) (hw4 : qq_cw M' ∈ lw_gd) (hdx : qq_hd x n) (hn : as.length = n) (hmx : M'.mx ≤ 60) (hlv : M'.lv < M.lv) (hst : (rest.map fun v => v.category).sum ≤ 8)
    (kk : ∀ (v : Option Value) (hp' : qq_H), P' v hp' → hp.1 ≤ hp'.1 → (∀ k, k < qq_E → hp'.2 k = hp.2 k) → qq_Go M hp' bc bs (pc + 3) loc (v.toList ++ rest) P PX)
    (kx : ∀ (E : String) (hp' : qq_H), PX' E hp' → hp.1 ≤ hp'.1 → (∀ k, k < qq_E → hp'.2 k = hp.2 k) → qq_GX M hp' bc bs pc loc E P PX) : qq_Go M hp (bc + mc) (bs + ms) pc loc (as.reverse ++ .ref o :: rest) P PX := by
  intro D base ad p l e R s m args below meth c H locs cells slots ls C1 C2
  obtain ⟨hwa, hwr0⟩ := qq_wrev C2.2.2.1
  have ho2 : o < hp.1 := qq_wh hwr0 o rfl
  have hwr := qq_wt hwr0
  have hM1 := hM l D base ad C1.2.2.2.2.2.2.2.2.2.2.1 (qq_wu (qq_wh hwr0) hwa)
  have ec : qq_cw M' = .code M'.y M'.cc M'.mx M'.rt := by unfold qq_cw; rw [hh]
  rw [ec] at hM1 hw4
  have cw := va_cwO (R := R) (s := s) (args := args) (own := M.y.cls) (C := C) (owner := x.cls) (index := idx) (x := x) (y := M'.y) (bytes := M'.cc) (maxL := M'.mx) (ret := M'.rt) (mc := mc) (ms := ms) (rm := qq_rm M' mc ms) (ws := .code M'.y M'.cc M'.mx M'.rt :: lw_gd) n C1.2.2.2.2.2.2.2.1 (qq_gin hw1 (qq_gin hw6 (qq_gin hw7 (qq_gin hw5 (qq_gin hw2 (qq_gin hw3 (qq_gin hw4 qq_ginT))))))) rfl rfl rfl h0 ⟨hdx.1, hdx.2.1, hdx.2.2⟩ (qq_room C1 hlv hmx)
  have hp1 := qq_preS (as := .ref o :: as) C1 C2
  have hR := vx_runU (C := C) (b := ad o) (As := as.map (qq_mv ad)) (rest := rest.map (qq_mv ad)) (g := F0 m pc ls ((as.reverse ++ .ref o :: rest).map (qq_mv ad))) (H := H) (locs := locs) (cells := cells) (slots := slots) (below := below) (e := e) (meth := meth) ⟨C1.1, C1.2.1, C1.2.2.2.1, C1.2.2.2.2.1, C1.2.2.2.2.2.2.2.1⟩ hM1 cw ⟨hp1.1, qq_recv C1 C2 ho2 ho hc, hp1.2⟩ rfl (by rw [List.length_map]; exact hn) C2.1.1 (by show (as.reverse ++ .ref o :: rest).map _ = _; rw [List.map_append, List.map_reverse]; rfl) (lv_room (qq_sum hst)) hdg ⟨by have := C2.2.2.2.2.2.1; omega, by have := C2.2.2.2.2.2.2; omega⟩
  exact qq_run hR C1 C2 hwr kk kx
/-- super.m(..) -/
theorem qq_callSU {o ci : Nat} {r : vw_C} {fs : List Value} (hdg : decode M.cc pc = .ok (.invokespecial idx, 3)) (ho : hp.2 o = .inr (ci, fs)) (hc : vwCl[ci]? = some r) (hM : qq_Mt M' (.ref o :: as) hp mc ms P' PX') (hh : M'.hh = []) (hw1 : Cond.methodLink M.y.cls idx M'.y ∈ lw_gd) (hw6 : Cond.sameMethod M'.y.cls M'.y.cls M'.y.name M'.y.desc ∈ lw_gd) (hw7 : Cond.superclass M.y.cls M'.y.cls ∈ lw_gd) (hw2 : Cond.instanceMethod M'.y ∈ lw_gd) (hw3 : Cond.initialized M'.y.cls ∈ lw_gd) (hw4 : qq_cw M' ∈ lw_gd) (hno : M'.y.name ≠ "<init>") (hd : qq_hd M'.y n) (hn : as.length = n) (hmx : M'.mx ≤ 60) (hlv : M'.lv < M.lv) (hst : (rest.map fun v => v.category).sum ≤ 8)
    (kk : ∀ (v : Option Value) (hp' : qq_H), P' v hp' → hp.1 ≤ hp'.1 → (∀ k, k < qq_E → hp'.2 k = hp.2 k) → qq_Go M hp' bc bs (pc + 3) loc (v.toList ++ rest) P PX)
    (kx : ∀ (E : String) (hp' : qq_H), PX' E hp' → hp.1 ≤ hp'.1 → (∀ k, k < qq_E → hp'.2 k = hp.2 k) → qq_GX M hp' bc bs pc loc E P PX) : qq_Go M hp (bc + mc) (bs + ms) pc loc (as.reverse ++ .ref o :: rest) P PX := by
  intro D base ad p l e R s m args below meth c H locs cells slots ls C1 C2
  obtain ⟨hwa, hwr0⟩ := qq_wrev C2.2.2.1
  have ho2 : o < hp.1 := qq_wh hwr0 o rfl
  have hwr := qq_wt hwr0
  have hM1 := hM l D base ad C1.2.2.2.2.2.2.2.2.2.2.1 (qq_wu (qq_wh hwr0) hwa)
  have ec : qq_cw M' = .code M'.y M'.cc M'.mx M'.rt := by unfold qq_cw; rw [hh]
  rw [ec] at hM1 hw4
  have cw := va_cwSU (R := R) (s := s) (args := args) (own := M.y.cls) (index := idx) (y := M'.y) (bytes := M'.cc) (maxL := M'.mx) (ret := M'.rt) (mc := mc) (ms := ms) (rm := qq_rm M' mc ms) (ws := .code M'.y M'.cc M'.mx M'.rt :: lw_gd) n C1.2.2.2.2.2.2.2.1 (qq_gin hw1 (qq_gin hw6 (qq_gin hw7 (qq_gin hw2 (qq_gin hw3 (qq_gin hw4 qq_ginT)))))) rfl rfl rfl ⟨hno, hd.2.2⟩ (qq_room C1 hlv hmx)
  have hp1 := qq_preS (as := .ref o :: as) C1 C2
  have hR := vx_runSU (C := r.1) (b := ad o) (As := as.map (qq_mv ad)) (rest := rest.map (qq_mv ad)) (g := F0 m pc ls ((as.reverse ++ .ref o :: rest).map (qq_mv ad))) (H := H) (locs := locs) (cells := cells) (slots := slots) (below := below) (e := e) (meth := meth) (C1.2.2.2.2.2.2.2.2.2.2.2.1.1 _ _ hc).2 ⟨C1.1, C1.2.1, C1.2.2.2.1, C1.2.2.2.2.1, C1.2.2.2.2.2.2.2.1⟩ hM1 cw ⟨hp1.1, qq_recv C1 C2 ho2 ho hc, hp1.2⟩ rfl (by rw [List.length_map]; exact hn) C2.1.1 (by show (as.reverse ++ .ref o :: rest).map _ = _; rw [List.map_append, List.map_reverse]; rfl) (lv_room (qq_sum hst)) hdg ⟨by have := C2.2.2.2.2.2.1; omega, by have := C2.2.2.2.2.2.2; omega⟩
  exact qq_run hR C1 C2 hwr kk kx
/-- a text -/
theorem qq_ldcs {tx : String} {a : Nat} (hdg : decode M.cc pc = .ok (.ldc idx, 2)) (hs : (M.y.cls, idx, tx, a) ∈ qq_st) (kk : qq_Go M hp bc bs (pc + 2) loc (.ref a :: rest) P PX) : qq_Go M hp bc bs pc loc rest P PX := by
  intro D base ad p l e R s m args below meth c H locs cells slots ls C1 C2
  have hv : qq_wv hp.1 (.ref a) := fun k hk => by cases hk; exact Nat.lt_of_lt_of_le (qq_stw _ hs) C2.2.2.2.1.1
  have h10 := C1.2.2.2.2.2.2.2.2.2.2.2.2.2.2.1 _ hs
  dsimp only at h10
  exact va_ldcS C1.1 C1.2.1 C1.2.2.2.2.1 h10 hdg (kk D base ad p l e R s m args below meth c H locs cells slots ls C1 (qq_Ck (fun h => qq_wu hv h) C2))
/-- arraycopy of bytes -/
theorem qq_cpy {o1 o2 n1 n2 : Nat} {f g : Nat → Int32} {sp dp k : Int32} (hdg : decode M.cc pc = .ok (.invokestatic idx, 3)) (ho1 : hp.2 o1 = .inl (3, n1, .inl f)) (ho2 : hp.2 o2 = .inl (3, n2, .inl g)) (hE : qq_E ≤ o2) (hw1 : Cond.methodLink M.y.cls idx arraycopyName ∈ lw_gd) (hw2 : Cond.native arraycopyName ∈ lw_gd) (hw3 : Cond.static arraycopyName ∈ lw_gd) (hw4 : Cond.initialized "java/lang/System" ∈ lw_gd) (h1 : ¬ sp < 0) (h2 : ¬ dp < 0) (h3 : ¬ k < 0) (h4 : sp.toNatClampNeg + k.toNatClampNeg ≤ n1) (h5 : dp.toNatClampNeg + k.toNatClampNeg ≤ n2) (hfit : ∀ i : Nat, fits .byte (.int (f i)) = true) (hst : (rest.map fun v => v.category).sum ≤ 8)
    (kk : qq_Go M (hp.1, va_up hp.2 o2 (.inl (3, n2, .inl (va_cpy f g sp.toNatClampNeg dp.toNatClampNeg k.toNatClampNeg)))) bc bs (pc + 3) loc rest P PX) : qq_Go M hp bc bs pc loc (.int k :: .int dp :: .ref o2 :: .int sp :: .ref o1 :: rest) P PX := by
  intro D base ad p l e R s m args below meth c H locs cells slots ls C1 C2
  have hl2 : o2 < hp.1 := qq_wh (qq_wt (qq_wt C2.2.2.1)) o2 rfl
  have hl1 : o1 < hp.1 := qq_wh (qq_wt (qq_wt (qq_wt (qq_wt C2.2.2.1)))) o1 rfl
  have he2 : (qq_ws D ad hp)[o2 - qq_E]? = some (ad o2, .inl (D.2 3, n2, .inl g)) := by
    rw [qq_wsAt hE hl2, ho2]
    rfl
  have hr := C1.2.2.2.2.2.2.2.2.2.1
  have hl : ((rest.map (qq_mv ad)).map fun v => v.category).sum + (nativeFrameWords "java/lang/System" "arraycopy" 5 + 11) ≤ R.locals := by
    have h9 := qq_sum (ad := ad) hst
    have h10 : nativeFrameWords "java/lang/System" "arraycopy" 5 + 11 ≤ 60 := Nat.le_of_ble_eq_true rfl
    omega
  have hk1 : ∀ (H1 : Heap) (locs1 : List Loc), va_P D.1 vwCl ((qq_ws D ad hp).set (o2 - qq_E) (ad o2, .inl (D.2 3, n2, .inl (va_cpy f g sp.toNatClampNeg dp.toNatClampNeg k.toNatClampNeg)))) H1 → va_D (qq_A base) ((qq_ws D ad hp).set (o2 - qq_E) (ad o2, .inl (D.2 3, n2, .inl (va_cpy f g sp.toNatClampNeg dp.toNatClampNeg k.toNatClampNeg)))) → va_S (qq_A base) s.heap H1 locs1 → W p l e R s m args below meth c H1 locs1 cells slots (vx_MQ below (qq_Q D base ad hp P) (qq_QX D base ad hp PX) args s R.cells R.slots (qq_A base)) (F0 m (pc + 3) ls (rest.map (qq_mv ad))) := fun H1 locs1 hP hD hS =>
    qq_chg C1 C2 (cl := .inl (3, n2, .inl (va_cpy f g sp.toNatClampNeg dp.toNatClampNeg k.toNatClampNeg))) hE hl2 trivial (qq_wt (qq_wt (qq_wt (qq_wt (qq_wt C2.2.2.1))))) hP hD hS kk
  have W1 := C1.2.2.2.2.2.2.2.1
  by_cases hE1 : o1 < qq_E
  · have hx := C1.2.2.2.2.2.2.2.2.2.2.2.2.1 o1 hE1
    rw [ho1] at hx
    exact vk_copyt C1.1 C1.2.1 (C1.2.2.2.1.trans C2.1.1.symm) C1.2.2.2.2.1 (W1 _ hw1) (W1 _ hw2) (W1 _ hw3) (W1 _ hw4) C1.2.2.2.2.2.2.2.2.2.2.2.1 (qq_RP C2.2.2.2.1) (qq_RD C2.2.2.2.1) C2.2.2.2.2.1 (f := f) hx (o2 - qq_E) 3 he2 rfl h1 h2 h3 h4 h5 (fun i _ => hfit _) (by omega) hl hdg hk1
  · have he1 : (qq_ws D ad hp)[o1 - qq_E]? = some (ad o1, .inl (D.2 3, n1, .inl f)) := by
      rw [qq_wsAt (by omega) hl1, ho1]
      rfl
    exact va_copyi C1.1 C1.2.1 (C1.2.2.2.1.trans C2.1.1.symm) C1.2.2.2.2.1 (W1 _ hw1) (W1 _ hw2) (W1 _ hw3) (W1 _ hw4) C1.2.2.2.2.2.2.2.2.2.2.2.1 (qq_RP C2.2.2.2.1) (qq_RD C2.2.2.2.1) C2.2.2.2.2.1 (o1 - qq_E) (o2 - qq_E) 3 3 he1 he2 rfl rfl rfl h1 h2 h3 h4 h5 (fun i _ => hfit _) (by omega) hl hdg hk1
end TX
/-! numbers of texts -/
theorem tx_shr (x : Int32) : x >>> ((0 : Int32) &&& 31) = x := by
  rw [show ((0 : Int32) &&& 31) = 0 by decide]
  simp
theorem tx_shl (x : Int32) : x <<< ((0 : Int32) &&& 31) = x := by
  rw [show ((0 : Int32) &&& 31) = 0 by decide]
  simp
theorem tx_add (a b : Nat) : Int32.ofNat a + Int32.ofNat b = Int32.ofNat (a + b) := (Int32.ofNat_add a b).symm
theorem tx_add1 (a : Nat) : Int32.ofNat a + 1 = Int32.ofNat (a + 1) := tx_add a 1
theorem tx_ti {n : Nat} (h : n < 2 ^ 31) : (Int32.ofNat n).toInt = n := nI_toInt h
theorem tx_cl {n : Nat} (h : n < 2 ^ 31) : (Int32.ofNat n).toNatClampNeg = n := by
  show (Int32.ofNat n).toInt.toNat = n
  rw [tx_ti h]
  omega
theorem tx_nn {n : Nat} (h : n < 2 ^ 31) : ¬ Int32.ofNat n < 0 := by
  rw [Int32.lt_iff_toInt_lt, tx_ti h]
  have e0 : (0 : Int32).toInt = 0 := rfl
  omega
theorem tx_in {n N : Nat} (h : n < N) (hN : n < 2 ^ 31) : vp_in (Int32.ofNat n) N := by
  rw [vp_in_iff, tx_ti hN]
  omega
theorem tx_le {n : Nat} (h : n ≤ 16) : Int32.ofNat n - 16 ≤ 0 := by
  rw [Int32.le_iff_toInt_le, Int32.toInt_sub, tx_ti (by omega)]
  have e0 : (0 : Int32).toInt = 0 := rfl
  have e1 : (16 : Int32).toInt = 16 := rfl
  rw [e0, e1, Int.bmod_eq_of_le (by omega) (by omega)]
  omega
theorem tx_m {k : Nat} (h : k < 16) : ¬ Int32.ofNat k = Int32.ofNat 16 := fun e => by
  have h2 := congrArg Int32.toInt e
  rw [tx_ti (by omega), tx_ti (by omega)] at h2
  omega
def byt (g : Nat → Int32) : Prop := ∀ i : Nat, fits .byte (.int (g i)) = true
theorem byt0 : byt (fun _ => 0) := fun _ => rfl
theorem byt_cpy {f g : Nat → Int32} (hf : byt f) (hg : byt g) (a b n : Nat) : byt (va_cpy f g a b n) := fun i => by
  unfold va_cpy
  by_cases h : b ≤ i ∧ i < b + n
  · rw [if_pos h]; exact hf _
  · rw [if_neg h]; exact hg _
theorem byt_n (x : Int32) : fits .byte (.int (vp_nar .byte x)) = true := by
  have e : vp_nar .byte x = x.toInt8.toInt32 := rfl
  rw [e]
  have h1 : (x.toInt8.toInt32).toInt = x.toInt8.toInt := Int8.toInt_toInt32 _
  have h2 := Int8.toInt_lt x.toInt8
  have h3 := Int8.le_toInt x.toInt8
  have a1 : (-128 : Int32) ≤ x.toInt8.toInt32 := by
    rw [Int32.le_iff_toInt_le, h1]
    have e1 : (-128 : Int32).toInt = -128 := rfl
    omega
  have a2 : x.toInt8.toInt32 ≤ 127 := by
    rw [Int32.le_iff_toInt_le, h1]
    have e1 : (127 : Int32).toInt = 127 := rfl
    omega
  show (decide _ && decide _) = true
  rw [decide_eq_true a1, decide_eq_true a2]
  rfl
theorem byt_u {g : Nat → Int32} (hg : byt g) (j : Nat) (x : Int32) : byt (upd g j (vp_nar .byte x)) := fun i => by
  unfold upd
  by_cases h : i = j
  · rw [if_pos h]; exact byt_n x
  · rw [if_neg h]; exact hg i
/-- a builder b, its row w of 16 bytes, k of them written -/
def sbd (b w : Nat) (m : Int32) (k : Nat) (hp : qq_H) : Prop := hp.2 b = .inr (1, [.ref w, .int 0, .int m, .int (Int32.ofNat k)]) ∧ ∃ g, hp.2 w = .inl (3, 16, .inl g) ∧ byt g
def sfr (b w : Nat) (hp hp' : qq_H) : Prop := hp'.1 = hp.1 ∧ ∀ j, j ≠ b → j ≠ w → hp'.2 j = hp.2 j
/-- a text s that was there before, its bytes v -/
def tst (s v L : Nat) (f : Nat → Int32) (hp : qq_H) : Prop := hp.2 s = .inr (0, [.ref v, .int 0]) ∧ hp.2 v = .inl (3, L, .inl f) ∧ byt f ∧ s < 80 ∧ v < 80
theorem tst_f {s v L b w : Nat} {f : Nat → Int32} {hp hp' : qq_H} (h : tst s v L f hp) (hb : 80 ≤ b) (hw : 80 ≤ w) (h2 : sfr b w hp hp') : tst s v L f hp' := by
  obtain ⟨h1, h3, h4, h5, h6⟩ := h
  exact ⟨(h2.2 s (by omega) (by omega)).trans h1, (h2.2 v (by omega) (by omega)).trans h3, h4, h5, h6⟩
theorem tx_h4 {L : Nat} (h : L < 2 ^ 31) : (0 : Int32).toNatClampNeg + (Int32.ofNat L).toNatClampNeg ≤ L := by
  rw [tx_cl h, show (0 : Int32).toNatClampNeg = 0 from rfl]
  omega
theorem tx_h40 {L n : Nat} (h : L < 2 ^ 31) (h2 : L ≤ n) : (0 : Int32).toNatClampNeg + (Int32.ofNat L).toNatClampNeg ≤ n := by
  rw [tx_cl h, show (0 : Int32).toNatClampNeg = 0 from rfl]
  omega
theorem tx_h5 {k L : Nat} (h : k + L ≤ 16) : (Int32.ofNat k).toNatClampNeg + (Int32.ofNat L).toNatClampNeg ≤ 16 := by
  rw [tx_cl (by omega), tx_cl (by omega)]
  exact h
theorem tx_dn {e : Nat} (h : 1 ≤ e) : Int32.ofNat e + -1 = Int32.ofNat (e - 1) := by
  obtain ⟨n, rfl⟩ : ∃ n, e = n + 1 := ⟨e - 1, by omega⟩
  rw [← tx_add1, Nat.add_sub_cancel]
  rw [Int32.add_assoc, show (1 : Int32) + -1 = 0 by decide, Int32.add_zero]
theorem tx_ge {k : Nat} (h : k < 2 ^ 31) : (0 : Int32) ≤ Int32.ofNat k := by
  rw [Int32.le_iff_toInt_le, tx_ti h]
  have e0 : (0 : Int32).toInt = 0 := rfl
  omega
theorem tx_s0 (x : Int32) : x - 0 = x := by simp
theorem byt_l {l : List Int32} (h : l.all (fun x => fits .byte (.int x)) = true) : byt (fun j => l.getD j 0) := fun i => by
  show fits .byte (.int (l.getD i 0)) = true
  rw [List.getD_eq_getElem?_getD]
  cases e : l[i]? with
  | none => rfl
  | some x => exact List.all_eq_true.mp h x (List.mem_of_getElem? e)
/-! an int below 1024: its digits -/
def rg (x : Int32) : Prop := -1024 ≤ x.toInt ∧ x.toInt ≤ 0
theorem rg_of {x : Int32} (h : rg x) : ∃ n, n < 1025 ∧ x = -Int32.ofNat n := by
  obtain ⟨h1, h2⟩ := h
  refine ⟨(-x.toInt).toNat, by omega, Int32.toInt_inj.mp ?_⟩
  have e : (Int32.ofNat (-x.toInt).toNat).toInt = -x.toInt := by rw [tx_ti (by omega)]; omega
  rw [Int32.toInt_neg, e, Int.bmod_eq_of_le (by omega) (by omega)]
  omega
def gcP (x : Int32) : Bool := if x ≤ -100 then decide (-100 < x / 100) && (!(decide (x / 100 * 100 - x < 0)) && decide ((x / 100 * 100 - x).toNatClampNeg < 100)) && (!(decide (-(x / 100) < 0)) && decide ((-(x / 100)).toNatClampNeg < 100)) else (!(decide (-x < 0)) && decide ((-x).toNatClampNeg < 100))
theorem gcP_all : (List.range 1025).all (fun n => gcP (-Int32.ofNat n)) = true := by decide +kernel
theorem gc_x {x : Int32} (h : rg x) : gcP x = true := by
  obtain ⟨n, hn, rfl⟩ := rg_of h
  exact List.all_eq_true.mp gcP_all n (List.mem_range.mpr hn)
theorem gc_b {i : Int32} {n : Nat} (h : (!(decide (i < 0)) && decide (i.toNatClampNeg < n)) = true) : vp_in i n := by
  rw [Bool.and_eq_true, Bool.not_eq_true', decide_eq_false_iff_not, decide_eq_true_iff] at h
  exact fun z => z.elim h.1 (fun y => absurd h.2 (Nat.not_lt_of_le y))
theorem gc_1 {x : Int32} (h : rg x) (hx : ¬ -100 < x) : -100 < x / 100 ∧ vp_in (x / 100 * 100 - x) 100 ∧ vp_in (-(x / 100)) 100 := by
  have h1 := gc_x h
  have h2 : x ≤ -100 := by
    rw [Int32.lt_iff_toInt_lt] at hx
    rw [Int32.le_iff_toInt_le]
    omega
  unfold gcP at h1
  rw [if_pos h2, Bool.and_eq_true, Bool.and_eq_true] at h1
  exact ⟨of_decide_eq_true h1.1.1, gc_b h1.1.2, gc_b h1.2⟩
theorem gc_2 {x : Int32} (h : rg x) (hx : -100 < x) : vp_in (-x) 100 := by
  have h1 := gc_x h
  have h2 : ¬ x ≤ -100 := by
    rw [Int32.lt_iff_toInt_lt] at hx
    rw [Int32.le_iff_toInt_le]
    omega
  unfold gcP at h1
  rw [if_neg h2] at h1
  exact gc_b h1
def rq (q : Int32) : Prop := -1024 ≤ q.toInt ∧ q.toInt ≤ 1023
theorem rq_n {q : Int32} (h : rq q) (hq : ¬ 0 ≤ q) : rg q := by
  rw [Int32.le_iff_toInt_le] at hq
  have e0 : (0 : Int32).toInt = 0 := rfl
  exact ⟨h.1, by omega⟩
theorem rq_p {q : Int32} (h : rq q) (hq : 0 ≤ q) : rg (-q) := by
  rw [Int32.le_iff_toInt_le] at hq
  have e0 : (0 : Int32).toInt = 0 := rfl
  obtain ⟨h1, h2⟩ := h
  have e : (-q).toInt = -q.toInt := by rw [Int32.toInt_neg, Int.bmod_eq_of_le (by omega) (by omega)]
  unfold rg
  rw [e]
  omega
theorem new_w : ∀ v ∈ ([.null, .int 0, .int 0, .int 0] : List Value), ∀ k, v ≠ .ref k := by
  intro v hv k
  simp only [List.mem_cons, List.not_mem_nil, or_false] at hv
  rcases hv with rfl | rfl | rfl | rfl <;> exact fun h => nomatch h

def f_J9_min_7cf53 (a : Int32) (b : Int32) : Int32 := if b < a then b else a
set_option maxRecDepth 4000 in
theorem mt_J9_min_7cf53 (hp : qq_H) (a : Int32) (b : Int32) : qq_Mt mJ9_min_7cf53 [.int a, .int b] hp 0 0 (fun v hp' => v = some (.int (f_J9_min_7cf53 a b)) ∧ hp = hp') (fun _ _ => False) := by
  refine qq_metF rfl (by decide +kernel) (Nat.le_of_ble_eq_true rfl) (Nat.le_of_ble_eq_true rfl) ?_
  show qq_Go _ hp 0 0 0 [(0, .int a), (1, .int b)] [] _ _
  refine qq_iload_n dJ9_min_7cf53_0 rfl 0 rfl ?_
  refine qq_iload_n dJ9_min_7cf53_1 rfl 1 rfl ?_
  refine qq_icmp_gt (tgt := 9) dJ9_min_7cf53_2 (by decide) (fun zc1 => ?_) (fun zc1 => ?_)
  · refine qq_iload_n dJ9_min_7cf53_9 rfl 1 rfl ?_
    refine qq_iret dJ9_min_7cf53_10 rfl rfl ⟨?_, rfl⟩
    rw [f_J9_min_7cf53, if_pos zc1]
  · refine qq_iload_n dJ9_min_7cf53_5 rfl 0 rfl ?_
    refine qq_goto (tgt := 10) dJ9_min_7cf53_6 (by decide) ?_
    refine qq_iret dJ9_min_7cf53_10 rfl rfl ⟨?_, rfl⟩
    rw [f_J9_min_7cf53, if_neg zc1]
def lf_J6_stringSize_0f7a4_16  : Nat → Int32 → Int32 → Int32 → Int32 → Int32
  | 0, _, _, _, _ => 0
  | fu + 1, y, d, p, i => if 10 ≤ i then 10 + d else if y ≤ p then lf_J6_stringSize_0f7a4_16 fu y d (10 * p) (i + 1) else i + d
set_option maxRecDepth 4000 in
theorem lp_J6_stringSize_0f7a4_16 (hp : qq_H)   : ∀ (fu : Nat) (y : Int32) (d : Int32) (p : Int32) (i : Int32), ((10 : Int32).toInt - i.toInt).toNat < fu → qq_Go mJ6_stringSize_0f7a4 hp 0 0 16 [(0, .int y), (1, .int d), (2, .int p), (3, .int i)] [] (fun v hp' => v = some (.int (lf_J6_stringSize_0f7a4_16  fu y d p i)) ∧ hp = hp') (fun _ _ => False)
  | 0, _, _, _, _, zh => absurd zh (Nat.not_lt_zero _)
  | fu + 1, y, d, p, i, zh => by
    refine qq_iload_n dJ6_stringSize_0f7a4_16 rfl 3 rfl ?_
    refine qq_bipush (v := 10) dJ6_stringSize_0f7a4_17 (by decide) ?_
    refine qq_icmp_ge (tgt := 42) dJ6_stringSize_0f7a4_19 (by decide) (fun zc1 => ?_) (fun zc1 => ?_)
    · refine qq_bipush (v := 10) dJ6_stringSize_0f7a4_42 (by decide) ?_
      refine qq_iload_n dJ6_stringSize_0f7a4_44 rfl 1 rfl ?_
      refine qq_iadd dJ6_stringSize_0f7a4_45 ?_
      refine qq_iret dJ6_stringSize_0f7a4_46 rfl rfl ⟨?_, rfl⟩
      rw [lf_J6_stringSize_0f7a4_16, if_pos zc1]
    · refine qq_iload_n dJ6_stringSize_0f7a4_22 rfl 0 rfl ?_
      refine qq_iload_n dJ6_stringSize_0f7a4_23 rfl 2 rfl ?_
      refine qq_icmp_le (tgt := 31) dJ6_stringSize_0f7a4_24 (by decide) (fun zc2 => ?_) (fun zc2 => ?_)
      · refine qq_bipush (v := 10) dJ6_stringSize_0f7a4_31 (by decide) ?_
        refine qq_iload_n dJ6_stringSize_0f7a4_33 rfl 2 rfl ?_
        refine qq_imul dJ6_stringSize_0f7a4_34 ?_
        refine qq_istore_n (loc' := [(0, .int y), (1, .int d), (2, .int (10 * p)), (3, .int i)]) dJ6_stringSize_0f7a4_35 rfl [1, 2, 0, 3] (Nat.le_of_ble_eq_true rfl) rfl ?_
        refine qq_iinc (v := i + 1) (loc' := [(0, .int y), (1, .int d), (2, .int (10 * p)), (3, .int (i + 1))]) dJ6_stringSize_0f7a4_36 3 rfl rfl [1, 2, 3, 0] (Nat.le_of_ble_eq_true rfl) rfl ?_
        refine qq_goto (tgt := 16) dJ6_stringSize_0f7a4_39 (by decide) ?_
        have ze : lf_J6_stringSize_0f7a4_16 (fu + 1) y d p i = lf_J6_stringSize_0f7a4_16 fu y d (10 * p) (i + 1) := by
          rw [lf_J6_stringSize_0f7a4_16, if_neg zc1, if_pos zc2]
        rw [ze]
        exact lp_J6_stringSize_0f7a4_16 hp  fu y d (10 * p) (i + 1) (qm_up zc1 zh)
      · refine qq_iload_n dJ6_stringSize_0f7a4_27 rfl 3 rfl ?_
        refine qq_iload_n dJ6_stringSize_0f7a4_28 rfl 1 rfl ?_
        refine qq_iadd dJ6_stringSize_0f7a4_29 ?_
        refine qq_iret dJ6_stringSize_0f7a4_30 rfl rfl ⟨?_, rfl⟩
        rw [lf_J6_stringSize_0f7a4_16, if_neg zc1, if_neg zc2]
def f_J6_stringSize_0f7a4 (x : Int32) : Int32 := if x < 0 then lf_J6_stringSize_0f7a4_16 11 x 1 (-10) 1 else lf_J6_stringSize_0f7a4_16 11 (-x) 0 (-10) 1
set_option maxRecDepth 4000 in
theorem mt_J6_stringSize_0f7a4 (hp : qq_H) (x : Int32) : qq_Mt mJ6_stringSize_0f7a4 [.int x] hp 0 0 (fun v hp' => v = some (.int (f_J6_stringSize_0f7a4 x)) ∧ hp = hp') (fun _ _ => False) := by
  refine qq_met pn_J6 (Nat.le_of_ble_eq_true rfl) (Nat.le_of_ble_eq_true rfl) kc_J6_stringSize_0f7a4 ?_
  show qq_Go _ hp 0 0 0 [(0, .int x)] [] _ _
  refine qq_iconst (v := 1) dJ6_stringSize_0f7a4_0 (by decide) ?_
  refine qq_istore_n (loc' := [(0, .int x), (1, .int 1)]) dJ6_stringSize_0f7a4_1 rfl [1, 0] (Nat.le_of_ble_eq_true rfl) rfl ?_
  refine qq_iload_n dJ6_stringSize_0f7a4_2 rfl 0 rfl ?_
  refine qq_if_lt (tgt := 11) dJ6_stringSize_0f7a4_3 (by decide) (fun zc1 => ?_) (fun zc1 => ?_)
  · refine qq_bipush (v := (-10)) dJ6_stringSize_0f7a4_11 (by decide) ?_
    refine qq_istore_n (loc' := [(0, .int x), (1, .int 1), (2, .int (-10))]) dJ6_stringSize_0f7a4_13 rfl [1, 2, 0] (Nat.le_of_ble_eq_true rfl) rfl ?_
    refine qq_iconst (v := 1) dJ6_stringSize_0f7a4_14 (by decide) ?_
    refine qq_istore_n (loc' := [(0, .int x), (1, .int 1), (2, .int (-10)), (3, .int 1)]) dJ6_stringSize_0f7a4_15 rfl [1, 2, 3, 0] (Nat.le_of_ble_eq_true rfl) rfl ?_
    have ze : f_J6_stringSize_0f7a4 x = lf_J6_stringSize_0f7a4_16 11 x 1 (-10) 1 := by
      rw [f_J6_stringSize_0f7a4, if_pos zc1]
    rw [ze]
    exact lp_J6_stringSize_0f7a4_16 hp  11 x 1 (-10) 1 (by decide)
  · refine qq_iconst (v := 0) dJ6_stringSize_0f7a4_6 (by decide) ?_
    refine qq_istore_n (loc' := [(0, .int x), (1, .int 0)]) dJ6_stringSize_0f7a4_7 rfl [1, 0] (Nat.le_of_ble_eq_true rfl) rfl ?_
    refine qq_iload_n dJ6_stringSize_0f7a4_8 rfl 0 rfl ?_
    refine qq_ineg dJ6_stringSize_0f7a4_9 ?_
    refine qq_istore_n (loc' := [(0, .int (-x)), (1, .int 0)]) dJ6_stringSize_0f7a4_10 rfl [0, 1] (Nat.le_of_ble_eq_true rfl) rfl ?_
    refine qq_bipush (v := (-10)) dJ6_stringSize_0f7a4_11 (by decide) ?_
    refine qq_istore_n (loc' := [(0, .int (-x)), (1, .int 0), (2, .int (-10))]) dJ6_stringSize_0f7a4_13 rfl [1, 2, 0] (Nat.le_of_ble_eq_true rfl) rfl ?_
    refine qq_iconst (v := 1) dJ6_stringSize_0f7a4_14 (by decide) ?_
    refine qq_istore_n (loc' := [(0, .int (-x)), (1, .int 0), (2, .int (-10)), (3, .int 1)]) dJ6_stringSize_0f7a4_15 rfl [1, 2, 3, 0] (Nat.le_of_ble_eq_true rfl) rfl ?_
    have ze : f_J6_stringSize_0f7a4 x = lf_J6_stringSize_0f7a4_16 11 (-x) 0 (-10) 1 := by
      rw [f_J6_stringSize_0f7a4, if_neg zc1]
    rw [ze]
    exact lp_J6_stringSize_0f7a4_16 hp  11 (-x) 0 (-10) 1 (by decide)

def szP (q : Int32) : Bool := f_J6_stringSize_0f7a4 q == 1 || f_J6_stringSize_0f7a4 q == 2 || f_J6_stringSize_0f7a4 q == 3 || f_J6_stringSize_0f7a4 q == 4 || f_J6_stringSize_0f7a4 q == 5
theorem szP_all : (List.range 2048).all (fun n => szP (Int32.ofNat n - 1024)) = true := by decide +kernel
theorem sz_q {q : Int32} (h : rq q) : ∃ n, 1 ≤ n ∧ n ≤ 5 ∧ f_J6_stringSize_0f7a4 q = Int32.ofNat n := by
  have h1 : szP q = true := by
    have e : Int32.ofNat (q.toInt + 1024).toNat - 1024 = q := by
      apply Int32.toInt_inj.mp
      obtain ⟨h1, h2⟩ := h
      have e5 : (Int32.ofNat (q.toInt + 1024).toNat).toInt = q.toInt + 1024 := by rw [tx_ti (by omega)]; omega
      have e4 : (1024 : Int32).toInt = 1024 := rfl
      rw [Int32.toInt_sub, e5, e4, Int.bmod_eq_of_le (by omega) (by omega)]
      omega
    rw [← e]
    exact List.all_eq_true.mp szP_all (q.toInt + 1024).toNat (List.mem_range.mpr (by have := h.1; have := h.2; omega))
  unfold szP at h1
  simp only [Bool.or_eq_true, beq_iff_eq] at h1
  rcases h1 with (((h1 | h1) | h1) | h1) | h1
  · exact ⟨1, by decide, by decide, h1⟩
  · exact ⟨2, by decide, by decide, h1⟩
  · exact ⟨3, by decide, by decide, h1⟩
  · exact ⟨4, by decide, by decide, h1⟩
  · exact ⟨5, by decide, by decide, h1⟩
theorem tx_min {k : Nat} (h : k ≤ 16) : f_J9_min_7cf53 16 (Int32.ofNat k) = Int32.ofNat k := by
  unfold f_J9_min_7cf53
  by_cases e : k = 16
  · subst e; rfl
  · rw [if_pos]
    rw [Int32.lt_iff_toInt_lt, tx_ti (by omega)]
    have e1 : (16 : Int32).toInt = 16 := rfl
    omega
