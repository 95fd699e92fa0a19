section QC2
variable {M M' : qq_M} {hp : qq_H} {bc bs mc ms pc idx n : Nat} {loc : List (Nat × Value)} {as rest : List Value} {P P' : Option Value → qq_H → Prop} {PX PX' : String → qq_H → Prop}
theorem qq_callV {o ci N : Nat} {T : u_T} {fs : List Value} (hdg : decode M.cc pc = .ok (.invokevirtual idx, 3)) (ho : hp.2 o = .inr (ci, fs)) (hE : qq_E ≤ o) (hc : vwCl[ci]? = some (M'.y.cls, T, N)) (hM : qq_Mt M' (.ref o :: as) hp mc ms P' PX') (hh : M'.hh = []) (hw1 : Cond.methodLink M.y.cls idx M'.y ∈ lw_gd) (hw2 : Cond.instanceMethod M'.y ∈ lw_gd) (hw5 : Cond.selects M'.y.cls M'.y M'.y ∈ lw_gd) (hw3 : Cond.initialized M'.y.cls ∈ lw_gd) (hw4 : qq_cw M' ∈ lw_gd) (hd : qq_hd M'.y n) (hn : as.length = n) (hmx : M'.mx ≤ 60) (hlv : M'.lv < M.lv) (hst : (rest.map fun v => v.category).sum ≤ 8)
    (kk : ∀ (v : Option Value) (hp' : qq_H), P' v hp' → hp.1 ≤ hp'.1 → (∀ k, k < qq_E → hp'.2 k = hp.2 k) → qq_Go M hp' bc bs (pc + 3) loc (v.toList ++ rest) P PX)
    (kx : ∀ (E : String) (hp' : qq_H), PX' E hp' → hp.1 ≤ hp'.1 → (∀ k, k < qq_E → hp'.2 k = hp.2 k) → qq_GX M hp' bc bs pc loc E P PX) : qq_Go M hp (bc + mc) (bs + ms) pc loc (as.reverse ++ .ref o :: rest) P PX := by
  intro D base ad p l e R s m args below meth c H locs cells slots ls C1 C2
  obtain ⟨hwa, hwr0⟩ := qq_wrev C2.2.2.1
  have ho2 : o < hp.1 := qq_wh hwr0 o rfl
  have hwr := qq_wt hwr0
  have hM1 := hM l D base ad C1.2.2.2.2.2.2.2.2.2.2.1 (qq_wu (qq_wh hwr0) hwa)
  have ec : qq_cw M' = .code M'.y M'.cc M'.mx M'.rt := by unfold qq_cw; rw [hh]
  rw [ec] at hM1 hw4
  have cw := cwV (R := R) (s := s) (args := args) (own := M.y.cls) (C := M'.y.cls) (index := idx) (y := M'.y) (bytes := M'.cc) (maxL := M'.mx) (ret := M'.rt) (mc := mc) (ms := ms) (rm := qq_rm M' mc ms) (ws := .code M'.y M'.cc M'.mx M'.rt :: lw_gd) n C1.2.2.2.2.2.2.2.1 (qq_gin hw1 (qq_gin hw2 (qq_gin hw5 (qq_gin hw3 (qq_gin hw4 qq_ginT))))) rfl rfl rfl ⟨rfl, hd⟩ (qq_room C1 hlv hmx)
  have he : (qq_ws D ad hp)[o - qq_E]? = some (ad o, .inr (ci, fs.map (qq_mv ad))) := by
    rw [qq_wsAt hE ho2, ho]
    rfl
  have hp1 := qq_preS (as := .ref o :: as) C1 C2
  have hR := vx_runV (C := M'.y.cls) (b := ad o) (As := as.map (qq_mv ad)) (rest := rest.map (qq_mv ad)) (g := F0 m pc ls ((as.reverse ++ .ref o :: rest).map (qq_mv ad))) (H := H) (locs := locs) (cells := cells) (slots := slots) (below := below) (e := e) (meth := meth) ⟨C1.1, C1.2.1, C1.2.2.2.1, C1.2.2.2.2.1, C1.2.2.2.2.2.2.2.1⟩ hM1 cw ⟨hp1.1, va_recv C1.2.2.2.2.2.2.2.2.2.2.2.1 (qq_RP C2.2.2.2.1) hc he, hp1.2⟩ rfl (by rw [List.length_map]; exact hn) C2.1.1 (by show (as.reverse ++ .ref o :: rest).map _ = _; rw [List.map_append, List.map_reverse]; rfl) (lv_room (qq_sum hst)) hdg ⟨by have := C2.2.2.2.2.2.1; omega, by have := C2.2.2.2.2.2.2; omega⟩
  exact qq_run hR C1 C2 hwr kk kx
theorem qq_callI {o : Nat} (hdg : decode M.cc pc = .ok (.invokespecial idx, 3)) (hM : qq_Mt M' (.ref o :: as) hp mc ms P' PX') (hh : M'.hh = []) (hrt : M'.rt = none) (hnm : M'.y.name = "<init>") (hw1 : Cond.methodLink M.y.cls idx M'.y ∈ lw_gd) (hw2 : Cond.instanceMethod M'.y ∈ lw_gd) (hw3 : Cond.initialized M'.y.cls ∈ lw_gd) (hw4 : qq_cw M' ∈ lw_gd) (hd : qq_hd M'.y n) (hn : as.length = n) (hmx : M'.mx ≤ 60) (hlv : M'.lv < M.lv) (hst : (rest.map fun v => v.category).sum ≤ 8)
    (kk : ∀ (v : Option Value) (hp' : qq_H), P' v hp' → hp.1 ≤ hp'.1 → (∀ k, k < qq_E → hp'.2 k = hp.2 k) → qq_Go M hp' bc bs (pc + 3) loc (v.toList ++ rest) P PX)
    (kx : ∀ (E : String) (hp' : qq_H), PX' E hp' → hp.1 ≤ hp'.1 → (∀ k, k < qq_E → hp'.2 k = hp.2 k) → qq_GX M hp' bc bs pc loc E P PX) : qq_Go M hp (bc + mc) (bs + ms) pc loc (as.reverse ++ .ref o :: rest) P PX := by
  intro D base ad p l e R s m args below meth c H locs cells slots ls C1 C2
  obtain ⟨hwa, hwr0⟩ := qq_wrev C2.2.2.1
  have hwr := qq_wt hwr0
  have hM1 := hM l D base ad C1.2.2.2.2.2.2.2.2.2.2.1 (qq_wu (qq_wh hwr0) hwa)
  have ec : qq_cw M' = .code M'.y M'.cc M'.mx none := by unfold qq_cw; rw [hh]; show Cond.code M'.y M'.cc M'.mx M'.rt = _; rw [hrt]
  rw [ec] at hM1 hw4
  have cw := cwI (R := R) (s := s) (args := args) (own := M.y.cls) (index := idx) (y := M'.y) (bytes := M'.cc) (maxL := M'.mx) (mc := mc) (ms := ms) (rm := qq_rm M' mc ms) (ws := .code M'.y M'.cc M'.mx none :: lw_gd) n C1.2.2.2.2.2.2.2.1 (qq_gin hw4 qq_ginT) rfl rfl rfl (C1.2.2.2.2.2.2.2.1 _ hw3) (C1.2.2.2.2.2.2.2.1 _ hw1) (C1.2.2.2.2.2.2.2.1 _ hw2) hnm hd (qq_room C1 hlv hmx)
  have hR := vx_runI (b := ad o) (As := as.map (qq_mv ad)) (rest := rest.map (qq_mv ad)) (g := F0 m pc ls ((as.reverse ++ .ref o :: rest).map (qq_mv ad))) (H := H) (locs := locs) (cells := cells) (slots := slots) (below := below) (e := e) (meth := meth) ⟨C1.1, C1.2.1, C1.2.2.2.1, C1.2.2.2.2.1, C1.2.2.2.2.2.2.2.1⟩ hM1 cw (qq_preS (as := .ref o :: as) C1 C2) rfl (by rw [List.length_map]; exact hn) C2.1.1 (by show (as.reverse ++ .ref o :: rest).map _ = _; rw [List.map_append, List.map_reverse]; rfl) (lv_room (qq_sum hst)) hdg ⟨by have := C2.2.2.2.2.2.1; omega, by have := C2.2.2.2.2.2.2; omega⟩
  exact qq_run hR C1 C2 hwr kk kx
theorem qq_callIN {o : Nat} {host : String} (hdg : decode M.cc pc = .ok (.invokespecial idx, 3)) (hM : qq_Mt M' (.ref o :: as) hp mc ms P' PX') (hh : M'.hh = []) (hrt : M'.rt = none) (hnm : M'.y.name = "<init>") (hw1 : Cond.methodLinkNest M.y.cls idx M'.y host ∈ qq_xw) (hw2 : Cond.instanceMethod M'.y ∈ lw_gd) (hw3 : Cond.initialized M'.y.cls ∈ lw_gd) (hw4 : qq_cw M' ∈ lw_gd) (hd : qq_hd M'.y n) (hn : as.length = n) (hmx : M'.mx ≤ 60) (hlv : M'.lv < M.lv) (hst : (rest.map fun v => v.category).sum ≤ 8)
    (kk : ∀ (v : Option Value) (hp' : qq_H), P' v hp' → hp.1 ≤ hp'.1 → (∀ k, k < qq_E → hp'.2 k = hp.2 k) → qq_Go M hp' bc bs (pc + 3) loc (v.toList ++ rest) P PX)
    (kx : ∀ (E : String) (hp' : qq_H), PX' E hp' → hp.1 ≤ hp'.1 → (∀ k, k < qq_E → hp'.2 k = hp.2 k) → qq_GX M hp' bc bs pc loc E P PX) : qq_Go M hp (bc + mc) (bs + ms) pc loc (as.reverse ++ .ref o :: rest) P PX := by
  intro D base ad p l e R s m args below meth c H locs cells slots ls C1 C2
  obtain ⟨hwa, hwr0⟩ := qq_wrev C2.2.2.1
  have hwr := qq_wt hwr0
  have hM1 := hM l D base ad C1.2.2.2.2.2.2.2.2.2.2.1 (qq_wu (qq_wh hwr0) hwa)
  have ec : qq_cw M' = .code M'.y M'.cc M'.mx none := by unfold qq_cw; rw [hh]; show Cond.code M'.y M'.cc M'.mx M'.rt = _; rw [hrt]
  rw [ec] at hM1 hw4
  have cw := va_cnB (R := R) (s := s) (args := args) (own := M.y.cls) (host := host) (index := idx) (y := M'.y) (bytes := M'.cc) (maxL := M'.mx) (ret := none) (mc := mc) (ms := ms) (rm := qq_rm M' mc ms) (ws := .code M'.y M'.cc M'.mx none :: lw_gd) n C1.2.2.2.2.2.2.2.1 (qq_gin hw4 qq_ginT) rfl rfl rfl (C1.2.2.2.2.2.2.2.2.2.2.2.2.2.2.2.2.2.2.2.1 _ hw1) (C1.2.2.2.2.2.2.2.1 _ hw3) hd (qq_room C1 hlv hmx)
  have hR := vx_runIN (b := ad o) (As := as.map (qq_mv ad)) (rest := rest.map (qq_mv ad)) (g := F0 m pc ls ((as.reverse ++ .ref o :: rest).map (qq_mv ad))) (H := H) (locs := locs) (cells := cells) (slots := slots) (below := below) (e := e) (meth := meth) ⟨C1.1, C1.2.1, C1.2.2.2.1, C1.2.2.2.2.1, C1.2.2.2.2.2.2.2.1⟩ hM1 ⟨cw, hnm, C1.2.2.2.2.2.2.2.1 _ hw2⟩ (qq_preS (as := .ref o :: as) C1 C2) rfl (by rw [List.length_map]; exact hn) C2.1.1 (by show (as.reverse ++ .ref o :: rest).map _ = _; rw [List.map_append, List.map_reverse]; rfl) (lv_room (qq_sum hst)) hdg ⟨by have := C2.2.2.2.2.2.1; omega, by have := C2.2.2.2.2.2.2; omega⟩
  exact qq_run hR C1 C2 hwr kk kx
/-- a static method with handlers -/
theorem qq_callSX {a0 : Nat × Nat × Nat × Nat} {h0 : List (Nat × Nat × Nat × Nat)} (hdg : decode M.cc pc = .ok (.invokestatic idx, 3)) (hM : qq_Mt M' as hp mc ms P' PX') (hh : M'.hh = a0 :: h0) (hw1 : Cond.methodLink M.y.cls idx M'.y ∈ lw_gd) (hw2 : Cond.static M'.y ∈ lw_gd) (hw3 : Cond.initialized M'.y.cls ∈ lw_gd) (hw4 : qq_cw M' ∈ lw_gd) (hd : qq_hd M'.y n) (hn : as.length = n) (hmx : M'.mx ≤ 60) (hlv : M'.lv < M.lv) (hst : (rest.map fun v => v.category).sum ≤ 8)
    (kk : ∀ (v : Option Value) (hp' : qq_H), P' v hp' → hp.1 ≤ hp'.1 → (∀ k, k < qq_E → hp'.2 k = hp.2 k) → qq_Go M hp' bc bs (pc + 3) loc (v.toList ++ rest) P PX)
    (kx : ∀ (E : String) (hp' : qq_H), PX' E hp' → hp.1 ≤ hp'.1 → (∀ k, k < qq_E → hp'.2 k = hp.2 k) → qq_GX M hp' bc bs pc loc E P PX) : qq_Go M hp (bc + mc) (bs + ms) pc loc (as.reverse ++ rest) P PX := by
  intro D base ad p l e R s m args below meth c H locs cells slots ls C1 C2
  obtain ⟨hwa, hwr⟩ := qq_wrev C2.2.2.1
  have hM1 := hM l D base ad C1.2.2.2.2.2.2.2.2.2.2.1 hwa
  have ec : qq_cw M' = .codeWith M'.y M'.cc M'.mx M'.rt M'.hh := by unfold qq_cw; rw [hh]
  rw [ec] at hM1 hw4
  have cw := vx_cwSW (R := R) (s := s) (args := args) (own := M.y.cls) (index := idx) (y := M'.y) (bytes := M'.cc) (maxL := M'.mx) (ret := M'.rt) (hh := M'.hh) (mc := mc) (ms := ms) (rm := qq_rm M' mc ms) (ws := .codeWith M'.y M'.cc M'.mx M'.rt M'.hh :: lw_gd) n C1.2.2.2.2.2.2.2.1 (qq_gin hw1 (qq_gin hw2 (qq_gin hw3 (qq_gin hw4 qq_ginT)))) rfl rfl rfl hd (qq_room C1 hlv hmx)
  have hR := vx_runSX (As := as.map (qq_mv ad)) (rest := rest.map (qq_mv ad)) (g := F0 m pc ls ((as.reverse ++ rest).map (qq_mv ad))) (H := H) (locs := locs) (cells := cells) (slots := slots) (below := below) (e := e) (meth := meth) ⟨C1.1, C1.2.1, C1.2.2.2.1, C1.2.2.2.2.1, C1.2.2.2.2.2.2.2.1⟩ hM1 cw (qq_preS C1 C2) rfl (by rw [List.length_map]; exact hn) C2.1.1 (by show (as.reverse ++ rest).map _ = _; rw [List.map_append, List.map_reverse]) (lv_room (qq_sum hst)) hdg ⟨by have := C2.2.2.2.2.2.1; omega, by have := C2.2.2.2.2.2.2; omega⟩
  exact qq_run hR C1 C2 hwr kk kx
/-! statics -/
theorem qq_gets {C nm d : String} {v : Value} (hdg : decode M.cc pc = .ok (.getstatic idx, 3)) (hs : (C, nm, d, v) ∈ qq_sf) (hw : Cond.fieldLink M.y.cls idx C nm d ∈ lw_gd) (kk : qq_Go M hp bc bs (pc + 3) loc (v :: rest) P PX) : qq_Go M hp bc bs pc loc rest P PX := by
  intro D base ad p l e R s m args below meth c H locs cells slots ls C1 C2
  have hv : qq_wv hp.1 v := fun k hk => Nat.lt_of_lt_of_le (qq_sfw _ hs k hk) C2.2.2.2.1.1
  exact va_gets C1.1 C1.2.1 (C1.2.2.2.2.2.2.2.2.2.2.2.2.2.1 _ hs) C2.2.2.2.2.1 C1.2.2.2.2.1 (C1.2.2.2.2.2.2.2.1 _ hw) (fun _ h9 => h9) hdg (kk D base ad p l e R s m args below meth c H locs cells slots ls C1 (qq_Ck (fun h => qq_wu hv h) C2))
theorem qq_getsN {C nm d host : String} {v : Value} (hdg : decode M.cc pc = .ok (.getstatic idx, 3)) (hs : (C, nm, d, v) ∈ qq_sf) (hw : Cond.fieldLinkNest M.y.cls idx C nm d host ∈ qq_xw) (kk : qq_Go M hp bc bs (pc + 3) loc (v :: rest) P PX) : qq_Go M hp bc bs pc loc rest P PX := by
  intro D base ad p l e R s m args below meth c H locs cells slots ls C1 C2
  have hv : qq_wv hp.1 v := fun k hk => Nat.lt_of_lt_of_le (qq_sfw _ hs k hk) C2.2.2.2.1.1
  exact va_getsN C1.1 C1.2.1 (C1.2.2.2.2.2.2.2.2.2.2.2.2.2.1 _ hs) C2.2.2.2.2.1 C1.2.2.2.2.1 (va_Nw.use rfl (C1.2.2.2.2.2.2.2.2.2.2.2.2.2.2.2.2.2.2.2.1 _ hw)) (fun _ h9 => h9) hdg (kk D base ad p l e R s m args below meth c H locs cells slots ls C1 (qq_Ck (fun h => qq_wu hv h) C2))
/-- a nest mate's field is written -/
theorem qq_putN {o ci N : Nat} {fs : List Value} {v : Value} {C host : String} {T : u_T} {ty : FieldType} (hdg : decode M.cc pc = .ok (.putfield idx, 3)) (ho : hp.2 o = .inr (ci, fs)) (hE : qq_E ≤ o) (hc : vwCl[ci]? = some (C, T, N)) (k : Nat) (hk : k < N) (hl : k < fs.length) (hin : ∀ w ∈ u_ws C T N, w ∈ lw_gd) (hw : Cond.fieldLinkNest M.y.cls idx (T k).1 (T k).2.1 (T k).2.2.1 host ∈ qq_xw) (ty0 : Nat → FieldType) (hty : ∀ k, k < N → parseFieldDescriptor (T k).2.2.1 = some (ty0 k)) (hnm : ∀ a, a < N → ∀ b, b < N → a ≠ b → (T a).2.1 ≠ (T b).2.1) (hfin : (T k).2.2.2 = false) (hd : parseFieldDescriptor (T k).2.2.1 = some ty) (hn : ∀ ad, narrow ty (qq_mv ad v) = qq_mv ad v) (hfit : ∀ ad, fits ty (qq_mv ad v) = true) (kk : qq_Go M (hp.1, va_up hp.2 o (.inr (ci, fs.set k v))) bc bs (pc + 3) loc rest P PX) : qq_Go M hp bc bs pc loc (v :: .ref o :: rest) P PX := by
  intro D base ad p l e R s m args below meth c H locs cells slots ls C1 C2
  have ho2 : o < hp.1 := qq_wh (qq_wt C2.2.2.1) o rfl
  have hvw : qq_wv hp.1 v := qq_wh C2.2.2.1
  have hwc := C2.2.2.2.1.2.2.2 o ho2
  rw [ho] at hwc
  have he : (qq_ws D ad hp)[o - qq_E]? = some (ad o, .inr (ci, fs.map (qq_mv ad))) := by
    rw [qq_wsAt hE ho2, ho]
    rfl
  refine va_putN C1.1 C1.2.1 C1.2.2.2.2.2.2.2.1 hin ty0 hty hnm C1.2.2.2.2.1 C1.2.2.2.2.2.2.2.2.2.2.2.1 (qq_RP C2.2.2.2.1) (qq_RD C2.2.2.2.1) C2.2.2.2.2.1 (o - qq_E) he hc k hk (va_Nw.use rfl (C1.2.2.2.2.2.2.2.2.2.2.2.2.2.2.2.2.2.2.2.1 _ hw)) (fun _ h9 => h9) hfin hd (hn ad) (hfit ad) (by rw [List.length_map]; exact hl) hdg (fun H1 locs1 hP hD hS => ?_)
  have e1 : qq_en D ad (.inr (ci, fs.set k v)) = .inr (ci, (fs.map (qq_mv ad)).set k (qq_mv ad v)) := by
    show Sum.inr (ci, (fs.set k v).map (qq_mv ad)) = _
    rw [List.map_set]
  rw [← e1] at hP hD
  exact qq_chg C1 C2 (cl := .inr (ci, fs.set k v)) hE ho2 (fun w hq => (List.mem_or_eq_of_mem_set hq).elim (hwc w) (fun e => by rw [e]; exact hvw)) (qq_wt (qq_wt C2.2.2.1)) hP hD hS kk
/-! a throw of a new throwable with a text, out of a method without handlers -/
theorem qq_throw {cls text : String} {names : List String} {ik is ic sa : Nat} (hh : M.hh = []) (hcls : Bundle.fit cls = true) (hnames : ∀ n ∈ names, Bundle.fit n = true) (hnl : names.length ≤ 3) (hk : Cond.classLink M.y.cls ik cls ∈ lw_gd) (hini : Cond.initialized cls ∈ lw_gd) (hstr : (M.y.cls, is, text, sa) ∈ qq_st)
    (ha1 : ∀ w ∈ (vx_atS M.y.cls ic cls names).filter goodWord, w ∈ lw_gd) (ha2 : ∀ w ∈ (vx_atS M.y.cls ic cls names).filter (fun w => !goodWord w), w ∈ qq_xw) (hgood : ∀ w ∈ Cond.classLink M.y.cls ik cls :: Cond.initialized cls :: vx_atS M.y.cls ic cls names, vx_ot w = true)
    (d0 : decode M.cc pc = .ok (.new ik, 3)) (d3 : decode M.cc (pc + 3) = .ok (.dup, 1)) (d4 : decode M.cc (pc + 4) = .ok (.ldc is, 2)) (d6 : decode M.cc (pc + 6) = .ok (.invokespecial ic, 3)) (d9 : decode M.cc (pc + 9) = .ok (.athrow, 1))
    (hst : (rest.map fun v => v.category).sum ≤ 8) (h : PX cls hp) : qq_Go M hp (bc + 1) (bs + 6) pc loc rest P PX := by
  intro D base ad p l e R s m args below meth c H locs cells slots ls C1 C2
  have hr := C1.2.2.2.2.2.2.2.2.2.1
  have h9 := C1.2.2.2.2.2.2.2.2.1
  rw [hh] at h9
  have b1 : cells + 1 ≤ R.cells := by have := C2.2.2.2.2.2.1; omega
  have b2 : slots + 6 ≤ R.slots := by have := C2.2.2.2.2.2.2; omega
  have hXX := C1.2.2.2.2.2.2.2.2.2.2.2.2
  have h10 := hXX.2.2.1 _ hstr
  dsimp only at h10
  refine vx_throwS C1.1 C1.2.1 C1.2.2.2.2.2.2.2.2.2.2.1 C1.2.2.2.2.1 hcls hnames (C1.2.2.2.2.2.2.2.1 _ hk) (C1.2.2.2.2.2.2.2.1 _ hini) h10 (vx_hat (B := qq_xw) (fun w hw => C1.2.2.2.2.2.2.2.1 _ (ha1 w hw)) ha2 (fun w hw => ?_)) hgood hXX.2.2.2.1 hXX.2.2.2.2.1 C2.2.2.2.2.1 (by rw [C1.2.2.2.1]; exact C2.1.1) d0 d3 d4 d6 d9 (fun x hx => by rw [h9] at hx; exact nomatch hx) (by omega) (by have := qq_sum (ad := ad) hst; omega) b1 b2 C1.2.2.2.2.2.1 (fun t hvm hsz hq => ?_) (fun q hq => C2.2.2.2.2.1.2.2 q hq) b1 b2
  · have h1 := qq_xwf w hw
    have h2 := hXX.2.2.2.2.2.2.2.1 w hw
    cases w <;> first | exact va_Nw.use rfl h2 | cases h1
  · have hS := C2.2.2.2.2.1
    refine ⟨⟨hp, ad, h, Nat.le_refl _, fun _ _ => rfl, fun _ _ => rfl, ?_⟩, Nat.le_trans hS.1 hsz, fun q h1 h2 => (hq q (Nat.lt_of_lt_of_le h1 hS.1)).trans (hS.2.1 q h1 h2)⟩
    have hR := C2.2.2.2.1
    exact ⟨hR.1, fun k h1 h2 => ⟨(hR.2.1 k h1 h2).1.kept (hq _ (hR.2.1 k h1 h2).1.lt), (hR.2.1 k h1 h2).2⟩, hR.2.2⟩
theorem qq_throwW {cls text : String} {names : List String} {ik is ic sa : Nat} (hh : M.hh = []) (hcls : Bundle.fit cls = true) (hnames : ∀ n ∈ names, Bundle.fit n = true) (hnl : names.length ≤ 3) (hk : Cond.classLink M.y.cls ik cls ∈ lw_gd) (hini : Cond.initialized cls ∈ lw_gd) (hstr : (M.y.cls, is, text, sa) ∈ qq_st)
    (ha1 : ∀ w ∈ (vx_atS M.y.cls ic cls names).filter goodWord, w ∈ lw_gd) (ha2 : ∀ w ∈ (vx_atS M.y.cls ic cls names).filter (fun w => !goodWord w), w ∈ qq_xw) (hgood : ∀ w ∈ Cond.classLink M.y.cls ik cls :: Cond.initialized cls :: vx_atS M.y.cls ic cls names, vx_ot w = true)
    (d0 : decode M.cc pc = .ok (.new ik, 3)) (d3 : decode M.cc (pc + 3) = .ok (.dup, 1)) (d4 : decode M.cc (pc + 4) = .ok (.ldc_w is, 3)) (d6 : decode M.cc (pc + 7) = .ok (.invokespecial ic, 3)) (d9 : decode M.cc (pc + 10) = .ok (.athrow, 1))
    (hst : (rest.map fun v => v.category).sum ≤ 8) (h : PX cls hp) : qq_Go M hp (bc + 1) (bs + 6) pc loc rest P PX := by
  intro D base ad p l e R s m args below meth c H locs cells slots ls C1 C2
  have hr := C1.2.2.2.2.2.2.2.2.2.1
  have h9 := C1.2.2.2.2.2.2.2.2.1
  rw [hh] at h9
  have b1 : cells + 1 ≤ R.cells := by have := C2.2.2.2.2.2.1; omega
  have b2 : slots + 6 ≤ R.slots := by have := C2.2.2.2.2.2.2; omega
  have hXX := C1.2.2.2.2.2.2.2.2.2.2.2.2
  have h10 := hXX.2.2.1 _ hstr
  dsimp only at h10
  refine vx_throwSW C1.1 C1.2.1 C1.2.2.2.2.2.2.2.2.2.2.1 C1.2.2.2.2.1 hcls hnames (C1.2.2.2.2.2.2.2.1 _ hk) (C1.2.2.2.2.2.2.2.1 _ hini) h10 (vx_hat (B := qq_xw) (fun w hw => C1.2.2.2.2.2.2.2.1 _ (ha1 w hw)) ha2 (fun w hw => ?_)) hgood hXX.2.2.2.1 hXX.2.2.2.2.1 C2.2.2.2.2.1 (by rw [C1.2.2.2.1]; exact C2.1.1) d0 d3 d4 d6 d9 (fun x hx => by rw [h9] at hx; exact nomatch hx) (by omega) (by have := qq_sum (ad := ad) hst; omega) b1 b2 C1.2.2.2.2.2.1 (fun t hvm hsz hq => ?_) (fun q hq => C2.2.2.2.2.1.2.2 q hq) b1 b2
  · have h1 := qq_xwf w hw
    have h2 := hXX.2.2.2.2.2.2.2.1 w hw
    cases w <;> first | exact va_Nw.use rfl h2 | cases h1
  · have hS := C2.2.2.2.2.1
    refine ⟨⟨hp, ad, h, Nat.le_refl _, fun _ _ => rfl, fun _ _ => rfl, ?_⟩, Nat.le_trans hS.1 hsz, fun q h1 h2 => (hq q (Nat.lt_of_lt_of_le h1 hS.1)).trans (hS.2.1 q h1 h2)⟩
    have hR := C2.2.2.2.1
    exact ⟨hR.1, fun k h1 h2 => ⟨(hR.2.1 k h1 h2).1.kept (hq _ (hR.2.1 k h1 h2).1.lt), (hR.2.1 k h1 h2).2⟩, hR.2.2⟩
/-! a catch: the throwable goes to a local that nothing reads -/
theorem qq_catch {E name : String} {loc' : List (Nat × Value)} (pre : List (Nat × Nat × Nat × Nat)) (x : Nat × Nat × Nat × Nat) (suf : List (Nat × Nat × Nat × Nat)) (hh : M.hh = pre ++ x :: suf)
    (hpass : ∀ z ∈ tableOf pre, z.catchType ≠ 0 ∧ ∃ nm : String, Cond.classLink M.y.cls z.catchType nm ∈ lw_gd ∧ (E, nm) ∈ qq_nc) (hx : ∀ z ∈ tableOf [x], covers z pc = true ∧ z.catchType ≠ 0 ∧ Cond.classLink M.y.cls z.catchType name ∈ lw_gd ∧ z.handlerPc = n) (hsp : tableOf (pre ++ x :: suf) = tableOf pre ++ tableOf [x] ++ tableOf suf) (h1x : (tableOf [x]).length = 1) (hcast : Cond.castable E name ∈ qq_xw)
    {i : Nat} {ln : Nat} (ks : List Nat) (hdg : decode M.cc n = .ok (.astore_n (Fin.ofNat 4 i), 1) ∧ i < 4 ∧ ln = 1 ∨ decode M.cc n = .ok (.astore i, 2) ∧ ln = 2) (hn : i < M.mx) (hl : lv_pick (loc.filter (qq_g1 i)) ks = loc') (kk : qq_Go M hp bc bs (n + ln) loc' [] P PX) : qq_GX M hp bc bs pc loc E P PX := by
  intro D base ad p l e R s m args below meth c H locs cells slots ls rs q ce C1 C2 h1 h2 h3
  have h9 := C1.2.2.2.2.2.2.2.2.1
  have hXX := C1.2.2.2.2.2.2.2.2.2.2.2.2
  rw [hh, hsp] at h9
  obtain ⟨z, hz⟩ := List.length_eq_one_iff.mp h1x
  have hxz := hx z (by rw [hz]; exact List.mem_cons_self)
  rw [hz, List.append_assoc] at h9
  refine vx_catch (own := M.y.cls) (name := name) C1.2.2.2.2.1 (tableOf pre) z (tableOf suf) h9 (fun w hw => ?_) hxz.1 hxz.2.1 (C1.2.2.2.2.2.2.2.1 _ hxz.2.2.1) (va_Nw.use rfl (hXX.2.2.2.2.2.2.2.1 _ hcast)) h1 h2 h3 ?_
  · obtain ⟨a1, nm, a2, a3⟩ := hpass w hw
    exact Or.inr ⟨a1, nm, C1.2.2.2.2.2.2.2.1 _ a2, hXX.2.2.2.2.2.2.1 _ a3⟩
  · rw [hxz.2.2.2]
    have fin : ∀ ls' : Array Slot, lv_has ls' M.mx ((i, .ref q) :: (loc.map (fun q => (q.1, qq_mv ad q.2))).filter (qq_g1 i)) → qq_Cy M D base ad hp bc bs loc' [] R s H locs cells slots ls' := by
      intro ls' hls
      refine ⟨?_, fun w hw => ?_, C2.2.2.1, C2.2.2.2⟩
      · rw [qq_fm ad loc (qq_g1 i) (qq_g1e ad i)] at hls
        have hls2 : lv_has ls' M.mx ((loc.filter (qq_g1 i)).map (fun q => (q.1, qq_mv ad q.2))) := ⟨hls.1, hls.2.1, fun w hw => hls.2.2 w (List.mem_cons_of_mem _ hw)⟩
        exact lv_sub hls2 ks (by rw [qq_pm, hl])
      · rw [← hl] at hw
        obtain ⟨k, -, hk⟩ := List.mem_filterMap.mp hw
        exact C2.2.1 w (List.mem_filter.mp (List.mem_of_getElem? hk)).1
    rcases hdg with ⟨hdg, hi4, rfl⟩ | ⟨hdg, rfl⟩
    · exact lv_astore_n C1.1 C1.2.1 hdg (show ((Fin.ofNat 4 i : Fin 4) : Nat) = i from Nat.mod_eq_of_lt hi4) C2.1 hn rfl (fun ls' hls => kk D base ad p l e R s m args below meth c H locs cells slots ls' C1 (fin ls' hls))
    · exact lv_astore C1.1 C1.2.1 hdg C2.1 hn rfl (fun ls' hls => kk D base ad p l e R s m args below meth c H locs cells slots ls' C1 (fin ls' hls))
end QC2
/-! long compares with their branch -/
section QL
variable {M : qq_M} {hp : qq_H} {bc bs pc tgt : Nat} {off : Int} {loc : List (Nat × Value)} {rest : List Value} {P : Option Value → qq_H → Prop} {PX : String → qq_H → Prop} {x y : Int64}
theorem qq_lc_lt (h1 : decode M.cc pc = .ok (.lcmp, 1)) (h2 : decode M.cc (pc + 1) = .ok (.ifCond .lt off, 3)) (ht : ((pc + 1 : Nat) : Int) + off = (tgt : Int)) (kt : x < y → qq_Go M hp bc bs tgt loc rest P PX) (kf : ¬ x < y → qq_Go M hp bc bs (pc + 4) loc rest P PX) : qq_Go M hp bc bs pc loc (.long y :: .long x :: rest) P PX :=
  qq_lcmp h1 (qq_if_lt h2 ht (fun c => kt ((lg_cmp_lt x y).mp c)) (fun c => kf (fun z => c ((lg_cmp_lt x y).mpr z))))
theorem qq_lc_ge (h1 : decode M.cc pc = .ok (.lcmp, 1)) (h2 : decode M.cc (pc + 1) = .ok (.ifCond .ge off, 3)) (ht : ((pc + 1 : Nat) : Int) + off = (tgt : Int)) (kt : y ≤ x → qq_Go M hp bc bs tgt loc rest P PX) (kf : ¬ y ≤ x → qq_Go M hp bc bs (pc + 4) loc rest P PX) : qq_Go M hp bc bs pc loc (.long y :: .long x :: rest) P PX :=
  qq_lcmp h1 (qq_if_ge h2 ht (fun c => kt ((lg_cmp_ge x y).mp c)) (fun c => kf (fun z => c ((lg_cmp_ge x y).mpr z))))
theorem qq_lc_gt (h1 : decode M.cc pc = .ok (.lcmp, 1)) (h2 : decode M.cc (pc + 1) = .ok (.ifCond .gt off, 3)) (ht : ((pc + 1 : Nat) : Int) + off = (tgt : Int)) (kt : y < x → qq_Go M hp bc bs tgt loc rest P PX) (kf : ¬ y < x → qq_Go M hp bc bs (pc + 4) loc rest P PX) : qq_Go M hp bc bs pc loc (.long y :: .long x :: rest) P PX :=
  qq_lcmp h1 (qq_if_gt h2 ht (fun c => kt ((lg_cmp_gt x y).mp c)) (fun c => kf (fun z => c ((lg_cmp_gt x y).mpr z))))
theorem qq_lc_le (h1 : decode M.cc pc = .ok (.lcmp, 1)) (h2 : decode M.cc (pc + 1) = .ok (.ifCond .le off, 3)) (ht : ((pc + 1 : Nat) : Int) + off = (tgt : Int)) (kt : x ≤ y → qq_Go M hp bc bs tgt loc rest P PX) (kf : ¬ x ≤ y → qq_Go M hp bc bs (pc + 4) loc rest P PX) : qq_Go M hp bc bs pc loc (.long y :: .long x :: rest) P PX :=
  qq_lcmp h1 (qq_if_le h2 ht (fun c => kt ((lg_cmp_le x y).mp c)) (fun c => kf (fun z => c ((lg_cmp_le x y).mpr z))))
theorem qq_lc_eq (h1 : decode M.cc pc = .ok (.lcmp, 1)) (h2 : decode M.cc (pc + 1) = .ok (.ifCond .eq off, 3)) (ht : ((pc + 1 : Nat) : Int) + off = (tgt : Int)) (kt : x = y → qq_Go M hp bc bs tgt loc rest P PX) (kf : ¬ x = y → qq_Go M hp bc bs (pc + 4) loc rest P PX) : qq_Go M hp bc bs pc loc (.long y :: .long x :: rest) P PX :=
  qq_lcmp h1 (qq_if_eq h2 ht (fun c => kt ((lg_cmp_eq x y).mp c)) (fun c => kf (fun z => c ((lg_cmp_eq x y).mpr z))))
theorem qq_lc_ne (h1 : decode M.cc pc = .ok (.lcmp, 1)) (h2 : decode M.cc (pc + 1) = .ok (.ifCond .ne off, 3)) (ht : ((pc + 1 : Nat) : Int) + off = (tgt : Int)) (kt : ¬ x = y → qq_Go M hp bc bs tgt loc rest P PX) (kf : x = y → qq_Go M hp bc bs (pc + 4) loc rest P PX) : qq_Go M hp bc bs pc loc (.long y :: .long x :: rest) P PX :=
  qq_lcmp h1 (qq_if_ne h2 ht (fun c => kt (fun z => c ((lg_cmp_eq x y).mpr z))) (fun c => kf ((lg_cmp_eq x y).mp c)))
end QL
/-! Math.abs -/
section QA
variable {M : qq_M} {hp : qq_H} {bc bs pc idx : Nat} {loc : List (Nat × Value)} {rest : List Value} {P : Option Value → qq_H → Prop} {PX : String → qq_H → Prop}
theorem qq_absJ {x : Int64} (hdg : decode M.cc pc = .ok (.invokestatic idx, 3)) (w1 : Cond.methodLink M.y.cls idx Lib.MathLoose.abs_long.x ∈ lw_gd) (w2 : Cond.static Lib.MathLoose.abs_long.x ∈ lw_gd) (w3 : Cond.initialized "java/lang/Math" ∈ lw_gd) (w4 : Cond.code Lib.MathLoose.abs_long.x Lib.MathLoose.abs_long.code 2 (some .long) ∈ lw_gd) (hst : (rest.map fun v => v.category).sum ≤ 8) (kk : qq_Go M hp bc bs (pc + 3) loc (.long (if 0 < x then x else -x) :: rest) P PX) : qq_Go M hp bc bs pc loc (.long x :: rest) P PX := by
  intro D base ad p l e R s m args below meth c H locs cells slots ls C1 C2
  have hr := C1.2.2.2.2.2.2.2.2.2.1
  have hts := C1.2.2.2.2.2.2.2.1
  exact va_mabs_long C1.1 C1.2.1 (C1.2.2.2.1.trans C2.1.1.symm) C1.2.2.2.2.1 (hts _ w1) (hts _ w2) (hts _ w3) (hts _ w4) (by omega) (by have := qq_sum (ad := ad) hst; omega) (by have := C2.2.2.2.2.2.1; omega) (by have := C2.2.2.2.2.2.2; omega) hdg (kk D base ad p l e R s m args below meth c H locs cells slots ls C1 (qq_Ck (fun h => qq_wj (qq_wt h)) C2))
theorem qq_absI {x : Int32} (hdg : decode M.cc pc = .ok (.invokestatic idx, 3)) (w1 : Cond.methodLink M.y.cls idx Lib.Math.abs.name ∈ lw_gd) (w2 : Cond.static Lib.Math.abs.name ∈ lw_gd) (w3 : Cond.initialized "java/lang/Math" ∈ lw_gd) (w4 : Cond.code Lib.Math.abs.name Lib.Math.abs.code 1 (some .int) ∈ lw_gd) (hst : (rest.map fun v => v.category).sum ≤ 8) (kk : qq_Go M hp bc bs (pc + 3) loc (.int (if 0 ≤ x then x else 0 - x) :: rest) P PX) : qq_Go M hp bc bs pc loc (.int x :: rest) P PX := by
  intro D base ad p l e R s m args below meth c H locs cells slots ls C1 C2
  have hr := C1.2.2.2.2.2.2.2.2.2.1
  have hts := C1.2.2.2.2.2.2.2.1
  exact va_mabs C1.1 C1.2.1 (C1.2.2.2.1.trans C2.1.1.symm) C1.2.2.2.2.1 (hts _ w1) (hts _ w2) (hts _ w3) (hts _ w4) (by omega) (by have := qq_sum (ad := ad) hst; omega) (by have := C2.2.2.2.2.2.1; omega) (by have := C2.2.2.2.2.2.2; omega) hdg (kk D base ad p l e R s m args below meth c H locs cells slots ls C1 (qq_Ck (fun h => qq_wi (qq_wt h)) C2))
end QA
/-! rows of rows: made and written -/
section QG
variable {M : qq_M} {hp : qq_H} {bc bs pc idx : Nat} {loc : List (Nat × Value)} {rest : List Value} {P : Option Value → qq_H → Prop} {PX : String → qq_H → Prop}
theorem qq_aa {U : State} {D : qq_D} (hK : va_K D.1 vwCl (qq_tys D.2) U) (h : (Cond.arrayOver (.array .int)).before #[] U = true) : ∃ kA : Class, U.vm.classes[D.2 4]? = some kA ∧ kA.kind = .array (D.2 0) (.array .int) := by
  obtain ⟨comp, cA, kA, h1, h2, h3, h4, h5⟩ := arrayOverA_spec h
  have e4 : cA = D.2 4 := Option.some.inj (h5.symm.trans (hK.2 4 _ rfl).2)
  have e0 : comp = D.2 0 := Option.some.inj (h1.symm.trans (hK.2 0 _ rfl).2)
  subst e4; subst e0
  exact ⟨kA, h3, h4⟩
theorem qq_newA {n : Int32} {N' ms : Nat} (hdg : decode M.cc pc = .ok (.anewarray idx, 3)) (hw : Cond.classLink M.y.cls idx (FieldType.array .int).toString ∈ lw_gd) (hn : ¬ n < 0) (hN : n.toNatClampNeg = N') (hb9 : N' ≤ 60000) (hms : N' ≤ ms) (kk : qq_Go M (hp.1 + 1, va_up hp.2 hp.1 (.inl (4, N', .inr (.inr (.inr (.inr (fun _ => none))))))) bc bs (pc + 3) loc (.ref hp.1 :: rest) P PX) : qq_Go M hp (bc + 1) (bs + ms) pc loc (.int n :: rest) P PX := by
  intro D base ad p l e R s m args below meth c H locs cells slots ls C1 C2
  have b1 : cells + 1 ≤ R.cells := by have := C2.2.2.2.2.2.1; omega
  have b2 : slots + N' ≤ R.slots := by have := C2.2.2.2.2.2.2; omega
  have hXX := C1.2.2.2.2.2.2.2.2.2.2.2.2
  have hK := C1.2.2.2.2.2.2.2.2.2.2.2.1
  have hS := C2.2.2.2.2.1
  have hP := qq_RP C2.2.2.2.1
  have hDd := qq_RD C2.2.2.2.1
  refine W.anewA (t := .int) C1.1 C1.2.1 C1.2.2.2.2.1 (C1.2.2.2.2.2.2.2.1 _ hw) hXX.2.2.2.2.2.2.2.2 (g := F0 m pc ls ((Value.int n :: rest).map (qq_mv ad))) rfl hdg (n := n) rfl hn (by rw [hN]; exact Nat.le_trans (Nat.mul_le_mul_right _ hb9) (Nat.le_of_ble_eq_true rfl)) b1 (by rw [hN]; exact b2) ?_
  intro cA kA comp f1 f2 f3 f4
  rw [hN]
  have e4 : cA = D.2 4 := Option.some.inj (f1.symm.trans (hK.2 4 _ rfl).2)
  subst e4
  have ec : ({ cls := D.2 4, slots := Array.replicate N' .null, vm := .none } : Cell) = vp_cell (D.2 4) (N', .inr (.inr (.inr (.inr (fun _ => none))))) := by
    rw [vp_cell_q]
    show _ = arrV (D.2 4) N' (fun _ => va_rf none)
    unfold arrV
    congr 1
    apply Array.ext
    · simp
    · intro i h1 h2
      simp [va_rf]
  generalize hH1 : H.push { cls := D.2 4, slots := Array.replicate N' .null, vm := .none } = H1
  have hz : H1.size = H.size + 1 := by rw [← hH1, Array.size_push]
  have o1 : ∀ q : Nat, q < H.size → H1[q]? = H[q]? := fun q hq => by rw [← hH1, Array.getElem?_push, if_neg (Nat.ne_of_lt hq)]
  have e1 : H1[H.size]? = some (vp_cell (D.2 4) (N', .inr (.inr (.inr (.inr (fun _ => none)))))) := by rw [← hH1, Array.getElem?_push, if_pos rfl, ec]
  refine W.widen (k := cells + 1) (n := slots + ms) (Nat.le_refl _) (by omega) ?_
  have hk : ∀ (k : Nat) (x : Nat × va_E), (qq_ws D ad hp)[k]? = some x → H1[x.1]? = H[x.1]? := fun k x hx => o1 x.1 ((hP k x hx).lt)
  refine qq_alc (q := H.size) (ev := .inl (D.2 4, N', .inr (.inr (.inr (.inr (fun _ => none)))))) (H1 := H1) (locs1 := locs) C1 C2 (cl := .inl (4, N', .inr (.inr (.inr (.inr (fun _ => none)))))) (fun j r h => nomatch h) (qq_wt C2.2.2.1) rfl ((hP.kept hk).app (fun k x hx => ?_)) (hDd.push hP rfl (qq_base hXX _ hS.1)) ⟨Nat.le_trans hS.1 (by omega), fun x h1 h2 => (o1 x (Nat.lt_of_lt_of_le h1 hS.1)).trans (hS.2.1 x h1 h2), hS.2.2⟩ kk
  have hz0 : k < 1 := (List.getElem?_eq_some_iff.mp hx).1
  rw [show k = 0 by omega] at hx
  cases hx
  exact e1
theorem qq_aastA {o n v nv : Nat} {f : Nat → Option Nat} {g : vp_A} {i : Int32} (hdg : decode M.cc pc = .ok (.aastore, 1)) (ho : hp.2 o = .inl (4, n, .inr (.inr (.inr (.inr f))))) (hE : qq_E ≤ o) (hv : hp.2 v = .inl (0, g)) (hEv : qq_E ≤ v) (hin : vp_in i n) (kk : qq_Go M (hp.1, va_up hp.2 o (.inl (4, n, .inr (.inr (.inr (.inr (va_up f i.toNatClampNeg (some v)))))))) bc bs (pc + 1) loc rest P PX) : qq_Go M hp bc bs pc loc (.ref v :: .int i :: .ref o :: rest) P PX := by
  intro D base ad p l e R s m args below meth c H locs cells slots ls C1 C2
  have hv2 : v < hp.1 := qq_wh C2.2.2.1 v rfl
  have ho2 : o < hp.1 := qq_wh (qq_wt (qq_wt C2.2.2.1)) o rfl
  have hXX := C1.2.2.2.2.2.2.2.2.2.2.2.2
  have hK := C1.2.2.2.2.2.2.2.2.2.2.2.1
  have hwc := C2.2.2.2.1.2.2.2 o ho2
  rw [ho] at hwc
  have h1 := (C2.2.2.2.1.2.1 o hE ho2).1
  rw [ho] at h1
  have h1' : H[ad o]? = some (arrV (D.2 4) n (fun j => va_rf ((f j).map ad))) := h1
  have h2 := (C2.2.2.2.1.2.1 v hEv hv2).1
  rw [hv] at h2
  have h2' : H[ad v]? = some (vp_cell (D.2 0) (qq_ma ad g)) := h2
  obtain ⟨kA, k1, k2⟩ := qq_aa hK hXX.2.2.2.2.2.2.2.2
  obtain ⟨-, kI, k3, -, -⟩ := (hK.2 0 _ rfl).1 0 (fun _ => .null)
  have k3' : s.vm.classes[D.2 0]? = some kI := k3
  have hself : s.vm.assignable (D.2 0) (D.2 0) = true := by
    show s.vm.assignableAux (255 + 1) _ _ = true
    rw [Vm.assignableAux]
    simp only [beq_self_eq_true, Bool.true_or]
  have hcv : (vp_cell (D.2 0) (qq_ma ad g)).cls = D.2 0 := by
    obtain ⟨z, x⟩ := g
    rcases x with f | f | f | f | f <;> rfl
  have hvv : ∀ q, (vp_cell (D.2 0) (qq_ma ad g)).vm ≠ .statics q := by
    obtain ⟨z, x⟩ := g
    intro q
    rcases x with f | f | f | f | f <;> (intro h; cases h)
  have hlt : i.toNatClampNeg < n := Nat.not_le.mp fun q => hin (Or.inr q)
  refine W.aast (comp := D.2 0) (t := .array .int) C1.1 C1.2.1 h1' (fun q h => by cases h) (fun h => by cases h) k1 k2 rfl k3' ⟨fun q => hin (Or.inl q), by rw [arrV_size]; exact hlt⟩ h2' hvv (by rw [hcv]; exact k3') (by rw [hcv]; exact hself) (g := F0 m pc ls ((Value.ref v :: .int i :: .ref o :: rest).map (qq_mv ad))) rfl rfl hdg (fun H1 e1 z oq => ?_)
  have hP := qq_RP C2.2.2.2.1
  have hDd := qq_RD C2.2.2.2.1
  have hp9 := qq_wsAt (D := D) (ad := ad) hE ho2
  have e2 : H1[ad o]? = some (vp_cell (D.2 4) (qq_ma ad (n, .inr (.inr (.inr (.inr (va_up f i.toNatClampNeg (some v)))))))) := by
    rw [e1, arrV_store]
    show some (arrV (D.2 4) n (updV (fun j => va_rf ((f j).map ad)) i.toNatClampNeg (.ref (ad v)))) = some (arrV (D.2 4) n (fun j => va_rf ((va_up f i.toNatClampNeg (some v) j).map ad)))
    congr 2
    funext j
    by_cases hj : j = i.toNatClampNeg
    · subst hj
      simp [updV, va_up, va_rf]
    · simp [updV, va_up, hj]
  refine qq_chg C1 C2 (cl := .inl (4, n, .inr (.inr (.inr (.inr (va_up f i.toNatClampNeg (some v))))))) hE ho2 (fun j r hr => ?_) (qq_wt (qq_wt (qq_wt C2.2.2.1))) (va_P.set hP hDd hp9 e2 oq) (hDd.set hp9) (va_S.put C2.2.2.2.2.1 z oq (C2.2.2.2.1.2.1 o hE ho2).2) kk
  simp only [va_up] at hr
  by_cases hj : j = i.toNatClampNeg
  · rw [if_pos hj] at hr
    cases hr
    exact hv2
  · rw [if_neg hj] at hr
    exact hwc j r hr
end QG
/-- fewer locals, in another order -/
theorem qq_loc {M : qq_M} {hp : qq_H} {bc bs pc : Nat} {loc loc' : List (Nat × Value)} {stk : List Value} {P : Option Value → qq_H → Prop} {PX : String → qq_H → Prop} (ks : List Nat) (hl : lv_pick loc ks = loc') (kk : qq_Go M hp bc bs pc loc' stk P PX) : qq_Go M hp bc bs pc loc stk P PX := by
  intro D base ad p l e R s m args below meth c H locs cells slots ls C1 C2
  refine kk D base ad p l e R s m args below meth c H locs cells slots ls C1 ⟨lv_sub C2.1 ks (by rw [qq_pm, hl]), fun q hq => ?_, C2.2.2⟩
  rw [← hl] at hq
  obtain ⟨k, -, hk⟩ := List.mem_filterMap.mp hq
  exact C2.2.1 q (List.mem_of_getElem? hk)
/-- more room than is wanted -/
theorem qq_less {M : qq_M} {hp : qq_H} {bc bs bc' bs' pc : Nat} {loc : List (Nat × Value)} {stk : List Value} {P : Option Value → qq_H → Prop} {PX : String → qq_H → Prop} (h1 : bc' ≤ bc) (h2 : bs' ≤ bs) (kk : qq_Go M hp bc' bs' pc loc stk P PX) : qq_Go M hp bc bs pc loc stk P PX := by
  intro D base ad p l e R s m args below meth c H locs cells slots ls C1 C2
  exact kk D base ad p l e R s m args below meth c H locs cells slots ls C1 ⟨C2.1, C2.2.1, C2.2.2.1, C2.2.2.2.1, C2.2.2.2.2.1, by have := C2.2.2.2.2.2.1; omega, by have := C2.2.2.2.2.2.2; omega⟩
/-- a post that says less -/
theorem qq_post {M : qq_M} {hp : qq_H} {bc bs pc : Nat} {loc : List (Nat × Value)} {stk : List Value} {P P' : Option Value → qq_H → Prop} {PX PX' : String → qq_H → Prop} (h1 : ∀ v h, P' v h → P v h) (h2 : ∀ E h, PX' E h → PX E h) (kk : qq_Go M hp bc bs pc loc stk P' PX') : qq_Go M hp bc bs pc loc stk P PX := by
  intro D base ad p l e R s m args below meth c H locs cells slots ls C1 C2
  refine qq_Wm (fun t ht => ?_) (kk D base ad p l e R s m args below meth c H locs cells slots ls C1 C2)
  obtain ⟨o, a1, a2, a3⟩ := ht
  refine ⟨o, a1, a2, ?_⟩
  rcases a3 with ⟨⟨⟨v, hq, aq, e1, e2, e3⟩, eF⟩, e8⟩ | ⟨q, rfl, E, ce, L, ⟨⟨hq, aq, e2, e3⟩, eF⟩, e7⟩
  · exact Or.inl ⟨⟨⟨v, hq, aq, e1, h1 _ _ e2, e3⟩, eF⟩, e8⟩
  · exact Or.inr ⟨q, rfl, E, ce, L, ⟨⟨hq, aq, h2 _ _ e2, e3⟩, eF⟩, e7⟩
