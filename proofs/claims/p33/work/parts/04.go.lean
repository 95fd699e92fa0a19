/-- the tables' words that the kit calls good -/
def qq_sel : List Cond := [.selects "java/lang/StringBuilder" yJ5_ensureCapacityInternal_d00df yJ5_ensureCapacityInternal_d00df, .selects "java/lang/StringBuilder" yJ5_putStringAt_47b60 yJ5_putStringAt_47b60, .selects "java/lang/StringBuilder" yJ5_inflateIfNeededFor_a7421 yJ5_inflateIfNeededFor_a7421]
def lw_gd : List Cond := qq_sel ++ lw_tbl.filter goodWord
theorem qq_in (i : Nat) {w : Cond} (h : lw_tbl[i]? = some w) (hg : goodWord w = true) : w ∈ lw_gd := List.mem_append_right _ (List.mem_filter.mpr ⟨List.mem_of_getElem? h, hg⟩)
theorem qq_selg : ∀ w ∈ qq_sel, (w.onTables && w.keeps) = true := by
  have h : qq_sel.all (fun w => w.onTables && w.keeps) = true := by decide +kernel
  exact fun w hw => List.all_eq_true.mp h w hw
theorem qq_good : ∀ w ∈ lw_gd, (w.onTables && w.keeps) = true ∨ ∃ ty, w = .arrayClass ty := fun w hw => (List.mem_append.mp hw).elim (fun h => Or.inl (qq_selg w h)) (fun h => good_of_word (List.mem_filter.mp h).2)
/-! A LAYER OVER THE KIT: a walk over a heap of cells by number. A cell's number is its place in what was made since the law's entry (behind qq_E cells that were there before: static rows, texts, the script); a map 'ad' gives its address. -/
abbrev qq_E : Nat := 80
/-- a cell: a row (its kind, its length and content), or an object (its class, its fields) -/
abbrev qq_C : Type := (Nat × vp_A) ⊕ (Nat × List Value)
abbrev qq_H : Type := Nat × (Nat → qq_C)
/-- classes' numbers, fields' places, rows' classes -/
abbrev qq_D : Type := va_G × (Nat → ClassId)
/-- a method: name, bytes, locals, return, handlers, level -/
abbrev qq_M : Type := MethodName × ByteArray × Nat × Option FieldType × List (Nat × Nat × Nat × Nat) × Nat
abbrev qq_M.y (M : qq_M) : MethodName := M.1
abbrev qq_M.cc (M : qq_M) : ByteArray := M.2.1
abbrev qq_M.mx (M : qq_M) : Nat := M.2.2.1
abbrev qq_M.rt (M : qq_M) : Option FieldType := M.2.2.2.1
abbrev qq_M.hh (M : qq_M) : List (Nat × Nat × Nat × Nat) := M.2.2.2.2.1
abbrev qq_M.lv (M : qq_M) : Nat := M.2.2.2.2.2
def qq_mv (ad : Nat → Nat) : Value → Value
  | .ref k => .ref (ad k)
  | v => v
def qq_ma (ad : Nat → Nat) (a : vp_A) : vp_A := (a.1, match a.2 with
  | .inr (.inr (.inr (.inr f))) => .inr (.inr (.inr (.inr (fun j => (f j).map ad))))
  | x => x)
def qq_ty : Nat → FieldType
  | 0 => .int
  | 1 => .long
  | 2 => .boolean
  | 3 => .byte
  | 4 => .array .int
  | _ => .object "java/lang/String"
def qq_tys (ci : Nat → ClassId) : List (ClassId × FieldType) := [(ci 0, .int), (ci 1, .long), (ci 2, .boolean), (ci 3, .byte), (ci 4, .array .int)]
def qq_en (D : qq_D) (ad : Nat → Nat) (c : qq_C) : va_E := match c with
  | .inl (t, a) => .inl (D.2 t, qq_ma ad a)
  | .inr (ci, fs) => .inr (ci, fs.map (qq_mv ad))
/-- a value speaks of cells below n alone -/
def qq_wv (n : Nat) (v : Value) : Prop := ∀ k, v = .ref k → k < n
def qq_wk (n : Nat) (st : List Value) : Prop := ∀ v ∈ st, qq_wv n v
def qq_wl (n : Nat) (l : List (Nat × Value)) : Prop := ∀ q ∈ l, qq_wv n q.2
def qq_wa (n : Nat) (a : vp_A) : Prop := match a.2 with
  | .inr (.inr (.inr (.inr f))) => ∀ (j r : Nat), f j = some r → r < n
  | _ => True
def qq_wc (n : Nat) (c : qq_C) : Prop := match c with
  | .inl (_, a) => qq_wa n a
  | .inr (_, fs) => qq_wk n fs
/-- the address set that a law may change: all that came since its entry -/
abbrev qq_A (base : Nat) : Nat → Prop := fun q => base ≤ q
/-- the heap holds the cells -/
def qq_R (D : qq_D) (base : Nat) (ad : Nat → Nat) (hp : qq_H) (H : Heap) : Prop :=
  qq_E ≤ hp.1 ∧ (∀ k, qq_E ≤ k → k < hp.1 → va_at D.1 vwCl (ad k, qq_en D ad (hp.2 k)) H ∧ base ≤ ad k) ∧
  (∀ i j, qq_E ≤ i → i < hp.1 → qq_E ≤ j → j < hp.1 → ad i = ad j → i = j) ∧ (∀ k, k < hp.1 → qq_wc hp.1 (hp.2 k))
/-- the values of a row -/
def qq_av (a : vp_A) : Nat → Value := match a.2 with
  | .inl f => fun j => .int (f j)
  | .inr (.inl f) => fun j => .long (f j)
  | .inr (.inr (.inl f)) => fun j => .float (f j)
  | .inr (.inr (.inr (.inl f))) => fun j => .double (f j)
  | .inr (.inr (.inr (.inr f))) => fun j => va_rf (f j)
/-- a cell that was there before -/
def qq_xc (base : Nat) (ad : Nat → Nat) (a : Nat) (c : qq_C) (U : State) (H : Heap) : Prop := match c with
  | .inl (t, x) => va_T (qq_ty t) a x.1 (qq_av (qq_ma ad x)) (qq_A base) U H
  | .inr (ci, fs) => ∀ r : vw_C, vwCl[ci]? = some r → va_O r.1 a (qq_A base) U H ∧ ∀ (k : Nat) (v : Value), fs[k]? = some v → va_OF (r.2.1 k).1 (r.2.1 k).2.1 (r.2.1 k).2.2.1 (qq_mv ad v) a (qq_A base) U H
/-- statics: class, name, descriptor, value; texts: class, place, text, cell -/
def qq_sf : List (String × String × String × Value) := [("Quarterpowers$Rows", "POWERS", "[J", .ref 1), ("Quarterpowers$Rows", "LESSENED", "[J", .ref 2), ("Quarterpowers$Rows", "LOGGED", "[J", .ref 3), ("QuarterpowersModel", "LEAST", "[I", .ref 4), ("QuarterpowersModel", "GREATEST", "[I", .ref 5), ("QuarterpowersModel", "NAMES", "[Ljava/lang/String;", .ref 6), ("java/lang/Integer", "DigitOnes", "[B", .ref 7), ("java/lang/Integer", "DigitTens", "[B", .ref 8), ("java/lang/String", "COMPACT_STRINGS", "Z", .int 1)]
def qq_st : List (String × Nat × String × Nat) := [("Quarterpowers", 282, "a cell is 0 to 7", 10), ("Quarterpowers", 290, "it has no HEIGHT", 11), ("Quarterpowers", 292, "its 64 digits are not told", 12), ("Quarterpowers", 287, "out of its range", 13), ("Quarterpowers", 104, "no WHOLE is told of this KIND", 14), ("Quarterpowers", 300, "the WHOLE has more than 32 bits", 15), ("Quarterpowers$Num", 40, "-", 20), ("Quarterpowers$Num", 42, "", 21), ("Quarterpowers$Num", 48, "zero", 22), ("Quarterpowers$Num", 50, "endless", 23), ("Quarterpowers$Num", 66, "power", 24), ("Quarterpowers$Num", 68, "lessened", 25), ("Quarterpowers$Num", 70, "logged", 26), ("Quarterpowers$Num", 72, "back", 27), ("Quarterpowers$Num", 74, "forth", 28), ("Quarterpowers$Num", 76, "quarter", 29), ("Quarterpowers", 294, "they are not NEAR", 16), ("QuarterpowersModel", 210, "", 40), ("QuarterpowersModel", 212, "-", 41), ("QuarterpowersModel", 221, "endless", 42), ("QuarterpowersModel", 227, "zero", 43), ("QuarterpowersModel", 312, "quarter ", 44), ("QuarterpowersModel", 314, "power ", 45), ("QuarterpowersModel", 316, "lessened ", 46), ("QuarterpowersModel", 318, "logged ", 47), ("QuarterpowersModel", 320, "back ", 48), ("QuarterpowersModel", 322, "forth ", 49)]
def qq_nc : List (String × String) := [("java/lang/IllegalArgumentException", "java/lang/IndexOutOfBoundsException"), ("java/lang/IllegalStateException", "java/lang/IndexOutOfBoundsException"), ("java/lang/IllegalStateException", "java/lang/IllegalArgumentException")]
/-- words that hold of any warmer tables too, but not as the kit's good words do -/
def qq_xw : List Cond := [.fieldLinkNest "Quarterpowers$Kept" 30 "Quarterpowers$Rows" "POWERS" "[J" "Quarterpowers", .fieldLinkNest "Quarterpowers$Kept" 40 "Quarterpowers$Rows" "LESSENED" "[J" "Quarterpowers", .fieldLinkNest "Quarterpowers$Kept" 43 "Quarterpowers$Rows" "LOGGED" "[J" "Quarterpowers", .castable "java/lang/IndexOutOfBoundsException" "java/lang/IndexOutOfBoundsException", .declares ⟨"java/lang/RuntimeException", "<init>", "()V"⟩, .declares ⟨"java/lang/RuntimeException", "<init>", "(Ljava/lang/String;)V"⟩, .declares ⟨"java/lang/Exception", "<init>", "()V"⟩, .declares ⟨"java/lang/Exception", "<init>", "(Ljava/lang/String;)V"⟩, .declares ⟨"java/lang/Throwable", "<init>", "()V"⟩, .declares ⟨"java/lang/Throwable", "<init>", "(Ljava/lang/String;)V"⟩, .castable "java/lang/IllegalStateException" "java/lang/IllegalStateException", .castable "java/lang/IllegalArgumentException" "java/lang/IllegalArgumentException", .methodLinkNest "QuarterpowersLaw" 170 ⟨"QuarterpowersLaw$Out", "<init>", "()V"⟩ "QuarterpowersLaw", .fieldLinkNest "QuarterpowersLaw" 13 "QuarterpowersLaw$Out" "n" "J" "QuarterpowersLaw", .fieldLinkNest "QuarterpowersLaw" 106 "QuarterpowersLaw$Out" "s" "Ljava/lang/String;" "QuarterpowersLaw", .castable "[B" "java/lang/Cloneable"]
abbrev qq_ok (U : State) : Prop := (∀ q ∈ qq_nc, va_Nc q.1 q.2 U) ∧ (∀ w ∈ qq_xw, va_Nw w U) ∧ (Cond.arrayOver (.array .int)).before #[] U = true
/-- what is known of what was there before -/
def qq_XX (base : Nat) (ad : Nat → Nat) (hp : qq_H) (U : State) (H : Heap) : Prop :=
  (∀ k, k < qq_E → qq_xc base ad (ad k) (hp.2 k) U H) ∧ (∀ q ∈ qq_sf, va_Z q.1 q.2.1 q.2.2.1 (qq_mv ad q.2.2.2) (qq_A base) U H) ∧ (∀ q ∈ qq_st, vk_R q.1 q.2.1 q.2.2.1 (ad q.2.2.2) U) ∧
  vx_Zq Bundle.tN "UNASSIGNED_STACK" Bundle.steD (qq_A base) U H ∧ vx_Zq Bundle.tN "SUPPRESSED_SENTINEL" Bundle.listD (qq_A base) U H ∧ base ≤ H.size ∧ qq_ok U
/-- what stays as a method is walked -/
def qq_Cx (M : qq_M) (D : qq_D) (base : Nat) (ad : Nat → Nat) (hp : qq_H) (p : Program) (l : Launch) (R : Room) (s : State) (m : MethodId) (args : Array Value) (meth : Method) (c : Code) : Prop :=
  p.tables.exec = Jvm.exec ∧ c.code = M.cc ∧ meth.sig.returnType = M.rt ∧ c.maxLocals = M.mx ∧ s.vm.findClass M.y.cls = some m.cls ∧ meth.locks = false ∧ meth.name = M.y.name ∧
  (∀ w ∈ lw_gd, w.before args s = true) ∧ c.exceptionTable.toList = tableOf M.hh ∧ (12 * M.lv ≤ R.frames ∧ 120 * M.lv ≤ R.locals ∧ 1 ≤ M.lv) ∧ l.stackTraces = false ∧
  va_K D.1 vwCl (qq_tys D.2) s ∧ qq_XX base ad hp s s.heap
def qq_Cy (M : qq_M) (D : qq_D) (base : Nat) (ad : Nat → Nat) (hp : qq_H) (bc bs : Nat) (loc : List (Nat × Value)) (stk : List Value) (R : Room) (s : State) (H : Heap) (locs : List Loc) (cells slots : Nat) (ls : Array Slot) : Prop :=
  lv_has ls M.mx (loc.map (fun q => (q.1, qq_mv ad q.2))) ∧ qq_wl hp.1 loc ∧ qq_wk hp.1 stk ∧ qq_R D base ad hp H ∧ va_S (qq_A base) s.heap H locs ∧ cells + bc ≤ R.cells ∧ slots + bs ≤ R.slots
/-- what a method leaves: its answer, the new heap of cells, the old cells at their addresses -/
def qq_Q (D : qq_D) (base : Nat) (ad : Nat → Nat) (hp : qq_H) (P : Option Value → qq_H → Prop) : Array Value → State → Outcome → State → Prop := fun _ st oc t =>
  (∃ (v : Option Value) (hp' : qq_H) (ad' : Nat → Nat), oc = .returned (v.map (qq_mv ad')) ∧ P v hp' ∧ hp.1 ≤ hp'.1 ∧ (∀ k, k < qq_E → hp'.2 k = hp.2 k) ∧ (∀ k, k < hp.1 → ad' k = ad k) ∧ qq_R D base ad' hp' t.heap ∧ (∀ w, v = some w → qq_wv hp'.1 w)) ∧ va_F (qq_A base) st t
def qq_QX (D : qq_D) (base : Nat) (ad : Nat → Nat) (hp : qq_H) (PX : String → qq_H → Prop) : String → State → State → Prop := fun E st t =>
  (∃ (hp' : qq_H) (ad' : Nat → Nat), PX E hp' ∧ hp.1 ≤ hp'.1 ∧ (∀ k, k < qq_E → hp'.2 k = hp.2 k) ∧ (∀ k, k < hp.1 → ad' k = ad k) ∧ qq_R D base ad' hp' t.heap) ∧ va_F (qq_A base) st t
/-- THE WALK: from pc, with these locals, stack and cells, at most bc cells and bs slots to be made: it returns so that P, or throws so that PX -/
def qq_Go (M : qq_M) (hp : qq_H) (bc bs : Nat) (pc : Nat) (loc : List (Nat × Value)) (stk : List Value) (P : Option Value → qq_H → Prop) (PX : String → qq_H → Prop) : Prop :=
  ∀ (D : qq_D) (base : Nat) (ad : Nat → Nat) (p : Program) (l : Launch) (e : Env) (R : Room) (s : State) (m : MethodId) (args : Array Value) (below : List Frame) (meth : Method) (c : Code) (H : Heap) (locs : List Loc) (cells slots : Nat) (ls : Array Slot),
    qq_Cx M D base ad hp p l R s m args meth c → qq_Cy M D base ad hp bc bs loc stk R s H locs cells slots ls →
    W p l e R s m args below meth c H locs cells slots (vx_MQ below (qq_Q D base ad hp P) (qq_QX D base ad hp PX) args s R.cells R.slots (qq_A base)) (F0 m pc ls (stk.map (qq_mv ad)))
theorem qq_mvi (ad : Nat → Nat) (x : Int32) : qq_mv ad (.int x) = .int x := rfl
theorem qq_cat (ad : Nat → Nat) (v : Value) : (qq_mv ad v).category = v.category := by cases v <;> rfl
theorem qq_wi {n : Nat} {st : List Value} {x : Int32} (h : qq_wk n st) : qq_wk n (.int x :: st) := fun v hv => (List.mem_cons.mp hv).elim (fun e => by rw [e]; exact fun k hk => by cases hk) (h v)
theorem qq_wj {n : Nat} {st : List Value} {x : Int64} (h : qq_wk n st) : qq_wk n (.long x :: st) := fun v hv => (List.mem_cons.mp hv).elim (fun e => by rw [e]; exact fun k hk => by cases hk) (h v)
theorem qq_wd {n : Nat} {st : List Value} {x : UInt64} (h : qq_wk n st) : qq_wk n (.double x :: st) := fun v hv => (List.mem_cons.mp hv).elim (fun e => by rw [e]; exact fun k hk => by cases hk) (h v)
theorem qq_wn {n : Nat} {st : List Value} (h : qq_wk n st) : qq_wk n (.null :: st) := fun v hv => (List.mem_cons.mp hv).elim (fun e => by rw [e]; exact fun k hk => by cases hk) (h v)
theorem qq_wu {n : Nat} {st : List Value} {v : Value} (hv : qq_wv n v) (h : qq_wk n st) : qq_wk n (v :: st) := fun w hw => (List.mem_cons.mp hw).elim (fun e => by rw [e]; exact hv) (h w)
theorem qq_wt {n : Nat} {st : List Value} {v : Value} (h : qq_wk n (v :: st)) : qq_wk n st := fun w hw => h w (List.mem_cons_of_mem _ hw)
theorem qq_wh {n : Nat} {st : List Value} {v : Value} (h : qq_wk n (v :: st)) : qq_wv n v := h v List.mem_cons_self
theorem qq_wat {n : Nat} {l : List (Nat × Value)} {j i : Nat} {v : Value} (h : qq_wl n l) (hk : l[j]? = some (i, v)) : qq_wv n v := h (i, v) (List.mem_of_getElem? hk)
theorem qq_lat {ls : Array Slot} {nL : Nat} {ad : Nat → Nat} {l : List (Nat × Value)} {j i : Nat} {v : Value} (h : lv_has ls nL (l.map (fun q => (q.1, qq_mv ad q.2)))) (hk : l[j]? = some (i, v)) : ls[i]? = some (.val (qq_mv ad v)) :=
  lv_at h j (by rw [List.getElem?_map, hk]; rfl)
theorem qq_wlm {n n' : Nat} {l : List (Nat × Value)} (h : qq_wl n l) (hn : n ≤ n') : qq_wl n' l := fun q hq k hk => Nat.lt_of_lt_of_le (h q hq k hk) hn
theorem qq_wkm {n n' : Nat} {l : List Value} (h : qq_wk n l) (hn : n ≤ n') : qq_wk n' l := fun q hq k hk => Nat.lt_of_lt_of_le (h q hq k hk) hn
theorem qq_mve {n : Nat} {ad ad' : Nat → Nat} (h : ∀ k, k < n → ad' k = ad k) {v : Value} (hv : qq_wv n v) : qq_mv ad' v = qq_mv ad v := by
  cases v <;> first | rfl | (show Value.ref _ = Value.ref _; rw [h _ (hv _ rfl)])
theorem qq_mke {n : Nat} {ad ad' : Nat → Nat} (h : ∀ k, k < n → ad' k = ad k) {st : List Value} (hv : qq_wk n st) : st.map (qq_mv ad') = st.map (qq_mv ad) := List.map_congr_left fun v hq => qq_mve h (hv v hq)
theorem qq_mle {n : Nat} {ad ad' : Nat → Nat} (h : ∀ k, k < n → ad' k = ad k) {l : List (Nat × Value)} (hv : qq_wl n l) : l.map (fun q => (q.1, qq_mv ad' q.2)) = l.map (fun q => (q.1, qq_mv ad q.2)) := List.map_congr_left fun q hq => by rw [qq_mve h (hv q hq)]
theorem qq_Wm {p : Program} {l : Launch} {e : Env} {R : Room} {s : State} {m : MethodId} {args : Array Value} {below : List Frame} {meth : Method} {c : Code} {H : Heap} {locs : List Loc} {cells slots : Nat} {Q Q' : State → Prop} {g : JFrame} (h : ∀ t, Q t → Q' t) (k : W p l e R s m args below meth c H locs cells slots Q g) : W p l e R s m args below meth c H locs cells slots Q' g := fun T hT X => by
  obtain ⟨t, a, b⟩ := k T hT X
  exact ⟨t, a, h t b⟩
/-- what is owed at the end, seen from an earlier map and heap of cells -/
theorem qq_Qm {D : qq_D} {base : Nat} {ad ad' : Nat → Nat} {hp hp' : qq_H} {P : Option Value → qq_H → Prop} {PX : String → qq_H → Prop} {below : List Frame} {args : Array Value} {s : State} {mc ms : Nat} (hn : hp.1 ≤ hp'.1) (hx : ∀ k, k < qq_E → hp'.2 k = hp.2 k) (ha : ∀ k, k < hp.1 → ad' k = ad k) (t : State)
    (h : vx_MQ below (qq_Q D base ad' hp' P) (qq_QX D base ad' hp' PX) args s mc ms (qq_A base) t) : vx_MQ below (qq_Q D base ad hp P) (qq_QX D base ad hp PX) args s mc ms (qq_A base) t := by
  obtain ⟨o, h1, h2, h3⟩ := h
  refine ⟨o, h1, h2, ?_⟩
  rcases h3 with ⟨⟨⟨v, hq, aq, e1, e2, e3, e4, e5, e6, e7⟩, eF⟩, e8⟩ | ⟨q, rfl, E, ce, L, ⟨⟨hq, aq, e2, e3, e4, e5, e6⟩, eF⟩, e7⟩
  · exact Or.inl ⟨⟨⟨v, hq, aq, e1, e2, Nat.le_trans hn e3, fun k hk => (e4 k hk).trans (hx k hk), fun k hk => (e5 k (Nat.lt_of_lt_of_le hk hn)).trans (ha k hk), e6, e7⟩, eF⟩, e8⟩
  · exact Or.inr ⟨q, rfl, E, ce, L, ⟨⟨hq, aq, e2, Nat.le_trans hn e3, fun k hk => (e4 k hk).trans (hx k hk), fun k hk => (e5 k (Nat.lt_of_lt_of_le hk hn)).trans (ha k hk), e6⟩, eF⟩, e7⟩
theorem qq_Ck {M : qq_M} {D : qq_D} {base : Nat} {ad : Nat → Nat} {hp : qq_H} {bc bs : Nat} {loc : List (Nat × Value)} {stk stk' : List Value} {R : Room} {s : State} {H : Heap} {locs : List Loc} {cells slots : Nat} {ls : Array Slot} (hw : qq_wk hp.1 stk → qq_wk hp.1 stk') (h : qq_Cy M D base ad hp bc bs loc stk R s H locs cells slots ls) : qq_Cy M D base ad hp bc bs loc stk' R s H locs cells slots ls :=
  ⟨h.1, h.2.1, hw h.2.2.1, h.2.2.2⟩
/-- a store: the new list of locals -/
def qq_s1 (i : Nat) (v : Value) : List (Nat × Value) → List (Nat × Value)
  | [] => [(i, v)]
  | q :: l => if q.1 < i then (if q.1 + 1 = i ∧ q.2.category = 2 then qq_s1 i v l else q :: qq_s1 i v l) else if q.1 = i then (i, v) :: l else (i, v) :: q :: l
def qq_s2 (i : Nat) (v : Value) : List (Nat × Value) → List (Nat × Value)
  | [] => [(i, v)]
  | q :: l => if q.1 < i then (if q.1 + 1 = i ∧ q.2.category = 2 then qq_s2 i v l else q :: qq_s2 i v l) else if q.1 = i ∨ q.1 = i + 1 then qq_s2 i v l else (i, v) :: q :: l

theorem qq_iconst {M : qq_M} {hp : qq_H} {bc bs pc : Nat} {loc : List (Nat × Value)} {rest : List Value} {P : Option Value → qq_H → Prop} {PX : String → qq_H → Prop} {n : Int} {v : Int32} (hdg : decode M.cc pc = .ok (.iconst n, 1)) (hv : Int32.ofInt n = v) (k : qq_Go M hp bc bs (pc + 1) loc (.int v :: rest) P PX) : qq_Go M hp bc bs pc loc (rest) P PX :=
  fun D base ad p l e R s m args below meth c H locs cells slots ls C1 C2 => lv_iconst C1.1 C1.2.1 hdg hv (k D base ad p l e R s m args below meth c H locs cells slots ls C1 (qq_Ck (fun h => qq_wi h) C2))
theorem qq_bipush {M : qq_M} {hp : qq_H} {bc bs pc : Nat} {loc : List (Nat × Value)} {rest : List Value} {P : Option Value → qq_H → Prop} {PX : String → qq_H → Prop} {n : Int} {v : Int32} (hdg : decode M.cc pc = .ok (.bipush n, 2)) (hv : (Int8.ofInt n).toInt32 = v) (k : qq_Go M hp bc bs (pc + 2) loc (.int v :: rest) P PX) : qq_Go M hp bc bs pc loc (rest) P PX :=
  fun D base ad p l e R s m args below meth c H locs cells slots ls C1 C2 => lv_bipush C1.1 C1.2.1 hdg hv (k D base ad p l e R s m args below meth c H locs cells slots ls C1 (qq_Ck (fun h => qq_wi h) C2))
theorem qq_sipush {M : qq_M} {hp : qq_H} {bc bs pc : Nat} {loc : List (Nat × Value)} {rest : List Value} {P : Option Value → qq_H → Prop} {PX : String → qq_H → Prop} {n : Int} {v : Int32} (hdg : decode M.cc pc = .ok (.sipush n, 3)) (hv : (Int16.ofInt n).toInt32 = v) (k : qq_Go M hp bc bs (pc + 3) loc (.int v :: rest) P PX) : qq_Go M hp bc bs pc loc (rest) P PX :=
  fun D base ad p l e R s m args below meth c H locs cells slots ls C1 C2 => lv_sipush C1.1 C1.2.1 hdg hv (k D base ad p l e R s m args below meth c H locs cells slots ls C1 (qq_Ck (fun h => qq_wi h) C2))
theorem qq_lconst {M : qq_M} {hp : qq_H} {bc bs pc : Nat} {loc : List (Nat × Value)} {rest : List Value} {P : Option Value → qq_H → Prop} {PX : String → qq_H → Prop} {n : Fin 2} {v : Int64} (hdg : decode M.cc pc = .ok (.lconst n, 1)) (hv : Int64.ofNat (n : Nat) = v) (k : qq_Go M hp bc bs (pc + 1) loc (.long v :: rest) P PX) : qq_Go M hp bc bs pc loc (rest) P PX :=
  fun D base ad p l e R s m args below meth c H locs cells slots ls C1 C2 => lv_lconst C1.1 C1.2.1 hdg hv (k D base ad p l e R s m args below meth c H locs cells slots ls C1 (qq_Ck (fun h => qq_wj h) C2))
theorem qq_null {M : qq_M} {hp : qq_H} {bc bs pc : Nat} {loc : List (Nat × Value)} {rest : List Value} {P : Option Value → qq_H → Prop} {PX : String → qq_H → Prop}  (hdg : decode M.cc pc = .ok (.aconst_null, 1))  (k : qq_Go M hp bc bs (pc + 1) loc (.null :: rest) P PX) : qq_Go M hp bc bs pc loc (rest) P PX :=
  fun D base ad p l e R s m args below meth c H locs cells slots ls C1 C2 => lv_null C1.1 C1.2.1 hdg  (k D base ad p l e R s m args below meth c H locs cells slots ls C1 (qq_Ck (fun h => qq_wn h) C2))
theorem qq_dconst0 {M : qq_M} {hp : qq_H} {bc bs pc : Nat} {loc : List (Nat × Value)} {rest : List Value} {P : Option Value → qq_H → Prop} {PX : String → qq_H → Prop}  (hdg : decode M.cc pc = .ok (.dconst 0, 1))  (k : qq_Go M hp bc bs (pc + 1) loc (.double FP.dconst0 :: rest) P PX) : qq_Go M hp bc bs pc loc (rest) P PX :=
  fun D base ad p l e R s m args below meth c H locs cells slots ls C1 C2 => lv_dconst0 C1.1 C1.2.1 hdg  (k D base ad p l e R s m args below meth c H locs cells slots ls C1 (qq_Ck (fun h => qq_wd h) C2))
theorem qq_dconst1 {M : qq_M} {hp : qq_H} {bc bs pc : Nat} {loc : List (Nat × Value)} {rest : List Value} {P : Option Value → qq_H → Prop} {PX : String → qq_H → Prop}  (hdg : decode M.cc pc = .ok (.dconst 1, 1))  (k : qq_Go M hp bc bs (pc + 1) loc (.double FP.dconst1 :: rest) P PX) : qq_Go M hp bc bs pc loc (rest) P PX :=
  fun D base ad p l e R s m args below meth c H locs cells slots ls C1 C2 => lv_dconst1 C1.1 C1.2.1 hdg  (k D base ad p l e R s m args below meth c H locs cells slots ls C1 (qq_Ck (fun h => qq_wd h) C2))
theorem qq_iload_n {M : qq_M} {hp : qq_H} {bc bs pc : Nat} {loc : List (Nat × Value)} {rest : List Value} {P : Option Value → qq_H → Prop} {PX : String → qq_H → Prop} {kk : Fin 4} {i : Nat} {x : Int32} (hdg : decode M.cc pc = .ok (.iload_n kk, 1)) (hi : (kk : Nat) = i) (j : Nat) (hj : loc[j]? = some (i, .int x)) (k : qq_Go M hp bc bs (pc + 1) loc (.int x :: rest) P PX) : qq_Go M hp bc bs pc loc (rest) P PX :=
  fun D base ad p l e R s m args below meth c H locs cells slots ls C1 C2 => lv_iload_n C1.1 C1.2.1 hdg hi (qq_lat C2.1 hj) (k D base ad p l e R s m args below meth c H locs cells slots ls C1 (qq_Ck (fun h => qq_wi h) C2))
theorem qq_iload {M : qq_M} {hp : qq_H} {bc bs pc : Nat} {loc : List (Nat × Value)} {rest : List Value} {P : Option Value → qq_H → Prop} {PX : String → qq_H → Prop} {i : Nat} {x : Int32} (hdg : decode M.cc pc = .ok (.iload i, 2)) (j : Nat) (hj : loc[j]? = some (i, .int x)) (k : qq_Go M hp bc bs (pc + 2) loc (.int x :: rest) P PX) : qq_Go M hp bc bs pc loc (rest) P PX :=
  fun D base ad p l e R s m args below meth c H locs cells slots ls C1 C2 => lv_iload C1.1 C1.2.1 hdg (qq_lat C2.1 hj) (k D base ad p l e R s m args below meth c H locs cells slots ls C1 (qq_Ck (fun h => qq_wi h) C2))
theorem qq_lload_n {M : qq_M} {hp : qq_H} {bc bs pc : Nat} {loc : List (Nat × Value)} {rest : List Value} {P : Option Value → qq_H → Prop} {PX : String → qq_H → Prop} {kk : Fin 4} {i : Nat} {x : Int64} (hdg : decode M.cc pc = .ok (.lload_n kk, 1)) (hi : (kk : Nat) = i) (j : Nat) (hj : loc[j]? = some (i, .long x)) (k : qq_Go M hp bc bs (pc + 1) loc (.long x :: rest) P PX) : qq_Go M hp bc bs pc loc (rest) P PX :=
  fun D base ad p l e R s m args below meth c H locs cells slots ls C1 C2 => lv_lload_n C1.1 C1.2.1 hdg hi (qq_lat C2.1 hj) (k D base ad p l e R s m args below meth c H locs cells slots ls C1 (qq_Ck (fun h => qq_wj h) C2))
theorem qq_lload {M : qq_M} {hp : qq_H} {bc bs pc : Nat} {loc : List (Nat × Value)} {rest : List Value} {P : Option Value → qq_H → Prop} {PX : String → qq_H → Prop} {i : Nat} {x : Int64} (hdg : decode M.cc pc = .ok (.lload i, 2)) (j : Nat) (hj : loc[j]? = some (i, .long x)) (k : qq_Go M hp bc bs (pc + 2) loc (.long x :: rest) P PX) : qq_Go M hp bc bs pc loc (rest) P PX :=
  fun D base ad p l e R s m args below meth c H locs cells slots ls C1 C2 => lv_lload C1.1 C1.2.1 hdg (qq_lat C2.1 hj) (k D base ad p l e R s m args below meth c H locs cells slots ls C1 (qq_Ck (fun h => qq_wj h) C2))
theorem qq_dload_n {M : qq_M} {hp : qq_H} {bc bs pc : Nat} {loc : List (Nat × Value)} {rest : List Value} {P : Option Value → qq_H → Prop} {PX : String → qq_H → Prop} {kk : Fin 4} {i : Nat} {x : UInt64} (hdg : decode M.cc pc = .ok (.dload_n kk, 1)) (hi : (kk : Nat) = i) (j : Nat) (hj : loc[j]? = some (i, .double x)) (k : qq_Go M hp bc bs (pc + 1) loc (.double x :: rest) P PX) : qq_Go M hp bc bs pc loc (rest) P PX :=
  fun D base ad p l e R s m args below meth c H locs cells slots ls C1 C2 => lv_dload_n C1.1 C1.2.1 hdg hi (qq_lat C2.1 hj) (k D base ad p l e R s m args below meth c H locs cells slots ls C1 (qq_Ck (fun h => qq_wd h) C2))
theorem qq_dload {M : qq_M} {hp : qq_H} {bc bs pc : Nat} {loc : List (Nat × Value)} {rest : List Value} {P : Option Value → qq_H → Prop} {PX : String → qq_H → Prop} {i : Nat} {x : UInt64} (hdg : decode M.cc pc = .ok (.dload i, 2)) (j : Nat) (hj : loc[j]? = some (i, .double x)) (k : qq_Go M hp bc bs (pc + 2) loc (.double x :: rest) P PX) : qq_Go M hp bc bs pc loc (rest) P PX :=
  fun D base ad p l e R s m args below meth c H locs cells slots ls C1 C2 => lv_dload C1.1 C1.2.1 hdg (qq_lat C2.1 hj) (k D base ad p l e R s m args below meth c H locs cells slots ls C1 (qq_Ck (fun h => qq_wd h) C2))
theorem qq_aload_n {M : qq_M} {hp : qq_H} {bc bs pc : Nat} {loc : List (Nat × Value)} {rest : List Value} {P : Option Value → qq_H → Prop} {PX : String → qq_H → Prop} {kk : Fin 4} {i x : Nat} (hdg : decode M.cc pc = .ok (.aload_n kk, 1)) (hi : (kk : Nat) = i) (j : Nat) (hj : loc[j]? = some (i, .ref x)) (k : qq_Go M hp bc bs (pc + 1) loc (.ref x :: rest) P PX) : qq_Go M hp bc bs pc loc (rest) P PX :=
  fun D base ad p l e R s m args below meth c H locs cells slots ls C1 C2 => lv_aload_n C1.1 C1.2.1 hdg hi (qq_lat C2.1 hj) (k D base ad p l e R s m args below meth c H locs cells slots ls C1 (qq_Ck (fun h => qq_wu (qq_wat C2.2.1 hj) h) C2))
theorem qq_aload {M : qq_M} {hp : qq_H} {bc bs pc : Nat} {loc : List (Nat × Value)} {rest : List Value} {P : Option Value → qq_H → Prop} {PX : String → qq_H → Prop} {i x : Nat} (hdg : decode M.cc pc = .ok (.aload i, 2)) (j : Nat) (hj : loc[j]? = some (i, .ref x)) (k : qq_Go M hp bc bs (pc + 2) loc (.ref x :: rest) P PX) : qq_Go M hp bc bs pc loc (rest) P PX :=
  fun D base ad p l e R s m args below meth c H locs cells slots ls C1 C2 => lv_aload C1.1 C1.2.1 hdg (qq_lat C2.1 hj) (k D base ad p l e R s m args below meth c H locs cells slots ls C1 (qq_Ck (fun h => qq_wu (qq_wat C2.2.1 hj) h) C2))
theorem qq_aload_nN {M : qq_M} {hp : qq_H} {bc bs pc : Nat} {loc : List (Nat × Value)} {rest : List Value} {P : Option Value → qq_H → Prop} {PX : String → qq_H → Prop} {kk : Fin 4} {i : Nat} (hdg : decode M.cc pc = .ok (.aload_n kk, 1)) (hi : (kk : Nat) = i) (j : Nat) (hj : loc[j]? = some (i, .null)) (k : qq_Go M hp bc bs (pc + 1) loc (.null :: rest) P PX) : qq_Go M hp bc bs pc loc (rest) P PX :=
  fun D base ad p l e R s m args below meth c H locs cells slots ls C1 C2 => lv_aload_nN C1.1 C1.2.1 hdg hi (qq_lat C2.1 hj) (k D base ad p l e R s m args below meth c H locs cells slots ls C1 (qq_Ck (fun h => qq_wn h) C2))
theorem qq_aloadN {M : qq_M} {hp : qq_H} {bc bs pc : Nat} {loc : List (Nat × Value)} {rest : List Value} {P : Option Value → qq_H → Prop} {PX : String → qq_H → Prop} {i : Nat} (hdg : decode M.cc pc = .ok (.aload i, 2)) (j : Nat) (hj : loc[j]? = some (i, .null)) (k : qq_Go M hp bc bs (pc + 2) loc (.null :: rest) P PX) : qq_Go M hp bc bs pc loc (rest) P PX :=
  fun D base ad p l e R s m args below meth c H locs cells slots ls C1 C2 => lv_aloadN C1.1 C1.2.1 hdg (qq_lat C2.1 hj) (k D base ad p l e R s m args below meth c H locs cells slots ls C1 (qq_Ck (fun h => qq_wn h) C2))
theorem qq_iadd {M : qq_M} {hp : qq_H} {bc bs pc : Nat} {loc : List (Nat × Value)} {rest : List Value} {P : Option Value → qq_H → Prop} {PX : String → qq_H → Prop} {x y : Int32} (hdg : decode M.cc pc = .ok (.iadd, 1))  (k : qq_Go M hp bc bs (pc + 1) loc (.int (x + y) :: rest) P PX) : qq_Go M hp bc bs pc loc (.int y :: .int x :: rest) P PX :=
  fun D base ad p l e R s m args below meth c H locs cells slots ls C1 C2 => lv_iadd C1.1 C1.2.1 hdg  (k D base ad p l e R s m args below meth c H locs cells slots ls C1 (qq_Ck (fun h => qq_wi (qq_wt (qq_wt h))) C2))
theorem qq_isub {M : qq_M} {hp : qq_H} {bc bs pc : Nat} {loc : List (Nat × Value)} {rest : List Value} {P : Option Value → qq_H → Prop} {PX : String → qq_H → Prop} {x y : Int32} (hdg : decode M.cc pc = .ok (.isub, 1))  (k : qq_Go M hp bc bs (pc + 1) loc (.int (x - y) :: rest) P PX) : qq_Go M hp bc bs pc loc (.int y :: .int x :: rest) P PX :=
  fun D base ad p l e R s m args below meth c H locs cells slots ls C1 C2 => lv_isub C1.1 C1.2.1 hdg  (k D base ad p l e R s m args below meth c H locs cells slots ls C1 (qq_Ck (fun h => qq_wi (qq_wt (qq_wt h))) C2))
theorem qq_imul {M : qq_M} {hp : qq_H} {bc bs pc : Nat} {loc : List (Nat × Value)} {rest : List Value} {P : Option Value → qq_H → Prop} {PX : String → qq_H → Prop} {x y : Int32} (hdg : decode M.cc pc = .ok (.imul, 1))  (k : qq_Go M hp bc bs (pc + 1) loc (.int (x * y) :: rest) P PX) : qq_Go M hp bc bs pc loc (.int y :: .int x :: rest) P PX :=
  fun D base ad p l e R s m args below meth c H locs cells slots ls C1 C2 => lv_imul C1.1 C1.2.1 hdg  (k D base ad p l e R s m args below meth c H locs cells slots ls C1 (qq_Ck (fun h => qq_wi (qq_wt (qq_wt h))) C2))
theorem qq_iand {M : qq_M} {hp : qq_H} {bc bs pc : Nat} {loc : List (Nat × Value)} {rest : List Value} {P : Option Value → qq_H → Prop} {PX : String → qq_H → Prop} {x y : Int32} (hdg : decode M.cc pc = .ok (.iand, 1))  (k : qq_Go M hp bc bs (pc + 1) loc (.int (x &&& y) :: rest) P PX) : qq_Go M hp bc bs pc loc (.int y :: .int x :: rest) P PX :=
  fun D base ad p l e R s m args below meth c H locs cells slots ls C1 C2 => lv_iand C1.1 C1.2.1 hdg  (k D base ad p l e R s m args below meth c H locs cells slots ls C1 (qq_Ck (fun h => qq_wi (qq_wt (qq_wt h))) C2))
theorem qq_ior {M : qq_M} {hp : qq_H} {bc bs pc : Nat} {loc : List (Nat × Value)} {rest : List Value} {P : Option Value → qq_H → Prop} {PX : String → qq_H → Prop} {x y : Int32} (hdg : decode M.cc pc = .ok (.ior, 1))  (k : qq_Go M hp bc bs (pc + 1) loc (.int (x ||| y) :: rest) P PX) : qq_Go M hp bc bs pc loc (.int y :: .int x :: rest) P PX :=
  fun D base ad p l e R s m args below meth c H locs cells slots ls C1 C2 => lv_ior C1.1 C1.2.1 hdg  (k D base ad p l e R s m args below meth c H locs cells slots ls C1 (qq_Ck (fun h => qq_wi (qq_wt (qq_wt h))) C2))
theorem qq_ixor {M : qq_M} {hp : qq_H} {bc bs pc : Nat} {loc : List (Nat × Value)} {rest : List Value} {P : Option Value → qq_H → Prop} {PX : String → qq_H → Prop} {x y : Int32} (hdg : decode M.cc pc = .ok (.ixor, 1))  (k : qq_Go M hp bc bs (pc + 1) loc (.int (x ^^^ y) :: rest) P PX) : qq_Go M hp bc bs pc loc (.int y :: .int x :: rest) P PX :=
  fun D base ad p l e R s m args below meth c H locs cells slots ls C1 C2 => lv_ixor C1.1 C1.2.1 hdg  (k D base ad p l e R s m args below meth c H locs cells slots ls C1 (qq_Ck (fun h => qq_wi (qq_wt (qq_wt h))) C2))
theorem qq_ishl {M : qq_M} {hp : qq_H} {bc bs pc : Nat} {loc : List (Nat × Value)} {rest : List Value} {P : Option Value → qq_H → Prop} {PX : String → qq_H → Prop} {x y : Int32} (hdg : decode M.cc pc = .ok (.ishl, 1))  (k : qq_Go M hp bc bs (pc + 1) loc (.int (x <<< (y &&& 31)) :: rest) P PX) : qq_Go M hp bc bs pc loc (.int y :: .int x :: rest) P PX :=
  fun D base ad p l e R s m args below meth c H locs cells slots ls C1 C2 => lv_ishl C1.1 C1.2.1 hdg  (k D base ad p l e R s m args below meth c H locs cells slots ls C1 (qq_Ck (fun h => qq_wi (qq_wt (qq_wt h))) C2))
theorem qq_ishr {M : qq_M} {hp : qq_H} {bc bs pc : Nat} {loc : List (Nat × Value)} {rest : List Value} {P : Option Value → qq_H → Prop} {PX : String → qq_H → Prop} {x y : Int32} (hdg : decode M.cc pc = .ok (.ishr, 1))  (k : qq_Go M hp bc bs (pc + 1) loc (.int (x >>> (y &&& 31)) :: rest) P PX) : qq_Go M hp bc bs pc loc (.int y :: .int x :: rest) P PX :=
  fun D base ad p l e R s m args below meth c H locs cells slots ls C1 C2 => lv_ishr C1.1 C1.2.1 hdg  (k D base ad p l e R s m args below meth c H locs cells slots ls C1 (qq_Ck (fun h => qq_wi (qq_wt (qq_wt h))) C2))
theorem qq_ladd {M : qq_M} {hp : qq_H} {bc bs pc : Nat} {loc : List (Nat × Value)} {rest : List Value} {P : Option Value → qq_H → Prop} {PX : String → qq_H → Prop} {x y : Int64} (hdg : decode M.cc pc = .ok (.ladd, 1))  (k : qq_Go M hp bc bs (pc + 1) loc (.long (x + y) :: rest) P PX) : qq_Go M hp bc bs pc loc (.long y :: .long x :: rest) P PX :=
  fun D base ad p l e R s m args below meth c H locs cells slots ls C1 C2 => lv_ladd C1.1 C1.2.1 hdg  (k D base ad p l e R s m args below meth c H locs cells slots ls C1 (qq_Ck (fun h => qq_wj (qq_wt (qq_wt h))) C2))
theorem qq_lsub {M : qq_M} {hp : qq_H} {bc bs pc : Nat} {loc : List (Nat × Value)} {rest : List Value} {P : Option Value → qq_H → Prop} {PX : String → qq_H → Prop} {x y : Int64} (hdg : decode M.cc pc = .ok (.lsub, 1))  (k : qq_Go M hp bc bs (pc + 1) loc (.long (x - y) :: rest) P PX) : qq_Go M hp bc bs pc loc (.long y :: .long x :: rest) P PX :=
  fun D base ad p l e R s m args below meth c H locs cells slots ls C1 C2 => lv_lsub C1.1 C1.2.1 hdg  (k D base ad p l e R s m args below meth c H locs cells slots ls C1 (qq_Ck (fun h => qq_wj (qq_wt (qq_wt h))) C2))
theorem qq_lmul {M : qq_M} {hp : qq_H} {bc bs pc : Nat} {loc : List (Nat × Value)} {rest : List Value} {P : Option Value → qq_H → Prop} {PX : String → qq_H → Prop} {x y : Int64} (hdg : decode M.cc pc = .ok (.lmul, 1))  (k : qq_Go M hp bc bs (pc + 1) loc (.long (x * y) :: rest) P PX) : qq_Go M hp bc bs pc loc (.long y :: .long x :: rest) P PX :=
  fun D base ad p l e R s m args below meth c H locs cells slots ls C1 C2 => lv_lmul C1.1 C1.2.1 hdg  (k D base ad p l e R s m args below meth c H locs cells slots ls C1 (qq_Ck (fun h => qq_wj (qq_wt (qq_wt h))) C2))
theorem qq_land {M : qq_M} {hp : qq_H} {bc bs pc : Nat} {loc : List (Nat × Value)} {rest : List Value} {P : Option Value → qq_H → Prop} {PX : String → qq_H → Prop} {x y : Int64} (hdg : decode M.cc pc = .ok (.land, 1))  (k : qq_Go M hp bc bs (pc + 1) loc (.long (x &&& y) :: rest) P PX) : qq_Go M hp bc bs pc loc (.long y :: .long x :: rest) P PX :=
  fun D base ad p l e R s m args below meth c H locs cells slots ls C1 C2 => lv_land C1.1 C1.2.1 hdg  (k D base ad p l e R s m args below meth c H locs cells slots ls C1 (qq_Ck (fun h => qq_wj (qq_wt (qq_wt h))) C2))
theorem qq_lor {M : qq_M} {hp : qq_H} {bc bs pc : Nat} {loc : List (Nat × Value)} {rest : List Value} {P : Option Value → qq_H → Prop} {PX : String → qq_H → Prop} {x y : Int64} (hdg : decode M.cc pc = .ok (.lor, 1))  (k : qq_Go M hp bc bs (pc + 1) loc (.long (x ||| y) :: rest) P PX) : qq_Go M hp bc bs pc loc (.long y :: .long x :: rest) P PX :=
  fun D base ad p l e R s m args below meth c H locs cells slots ls C1 C2 => lv_lor C1.1 C1.2.1 hdg  (k D base ad p l e R s m args below meth c H locs cells slots ls C1 (qq_Ck (fun h => qq_wj (qq_wt (qq_wt h))) C2))
theorem qq_lxor {M : qq_M} {hp : qq_H} {bc bs pc : Nat} {loc : List (Nat × Value)} {rest : List Value} {P : Option Value → qq_H → Prop} {PX : String → qq_H → Prop} {x y : Int64} (hdg : decode M.cc pc = .ok (.lxor, 1))  (k : qq_Go M hp bc bs (pc + 1) loc (.long (x ^^^ y) :: rest) P PX) : qq_Go M hp bc bs pc loc (.long y :: .long x :: rest) P PX :=
  fun D base ad p l e R s m args below meth c H locs cells slots ls C1 C2 => lv_lxor C1.1 C1.2.1 hdg  (k D base ad p l e R s m args below meth c H locs cells slots ls C1 (qq_Ck (fun h => qq_wj (qq_wt (qq_wt h))) C2))
theorem qq_idiv {M : qq_M} {hp : qq_H} {bc bs pc : Nat} {loc : List (Nat × Value)} {rest : List Value} {P : Option Value → qq_H → Prop} {PX : String → qq_H → Prop} {x y : Int32} (hdg : decode M.cc pc = .ok (.idiv, 1)) (hne : ¬ y = 0) (k : qq_Go M hp bc bs (pc + 1) loc (.int (x / y) :: rest) P PX) : qq_Go M hp bc bs pc loc (.int y :: .int x :: rest) P PX :=
  fun D base ad p l e R s m args below meth c H locs cells slots ls C1 C2 => lv_idiv C1.1 C1.2.1 hdg hne (k D base ad p l e R s m args below meth c H locs cells slots ls C1 (qq_Ck (fun h => qq_wi (qq_wt (qq_wt h))) C2))
theorem qq_irem {M : qq_M} {hp : qq_H} {bc bs pc : Nat} {loc : List (Nat × Value)} {rest : List Value} {P : Option Value → qq_H → Prop} {PX : String → qq_H → Prop} {x y : Int32} (hdg : decode M.cc pc = .ok (.irem, 1)) (hne : ¬ y = 0) (k : qq_Go M hp bc bs (pc + 1) loc (.int (x - x / y * y) :: rest) P PX) : qq_Go M hp bc bs pc loc (.int y :: .int x :: rest) P PX :=
  fun D base ad p l e R s m args below meth c H locs cells slots ls C1 C2 => lv_irem C1.1 C1.2.1 hdg hne (k D base ad p l e R s m args below meth c H locs cells slots ls C1 (qq_Ck (fun h => qq_wi (qq_wt (qq_wt h))) C2))
theorem qq_ldiv {M : qq_M} {hp : qq_H} {bc bs pc : Nat} {loc : List (Nat × Value)} {rest : List Value} {P : Option Value → qq_H → Prop} {PX : String → qq_H → Prop} {x y : Int64} (hdg : decode M.cc pc = .ok (.ldiv, 1)) (hne : ¬ y = 0) (k : qq_Go M hp bc bs (pc + 1) loc (.long (x / y) :: rest) P PX) : qq_Go M hp bc bs pc loc (.long y :: .long x :: rest) P PX :=
  fun D base ad p l e R s m args below meth c H locs cells slots ls C1 C2 => lv_ldiv C1.1 C1.2.1 hdg hne (k D base ad p l e R s m args below meth c H locs cells slots ls C1 (qq_Ck (fun h => qq_wj (qq_wt (qq_wt h))) C2))
theorem qq_lrem {M : qq_M} {hp : qq_H} {bc bs pc : Nat} {loc : List (Nat × Value)} {rest : List Value} {P : Option Value → qq_H → Prop} {PX : String → qq_H → Prop} {x y : Int64} (hdg : decode M.cc pc = .ok (.lrem, 1)) (hne : ¬ y = 0) (k : qq_Go M hp bc bs (pc + 1) loc (.long (x - x / y * y) :: rest) P PX) : qq_Go M hp bc bs pc loc (.long y :: .long x :: rest) P PX :=
  fun D base ad p l e R s m args below meth c H locs cells slots ls C1 C2 => lv_lrem C1.1 C1.2.1 hdg hne (k D base ad p l e R s m args below meth c H locs cells slots ls C1 (qq_Ck (fun h => qq_wj (qq_wt (qq_wt h))) C2))
theorem qq_ineg {M : qq_M} {hp : qq_H} {bc bs pc : Nat} {loc : List (Nat × Value)} {rest : List Value} {P : Option Value → qq_H → Prop} {PX : String → qq_H → Prop} {x : Int32} (hdg : decode M.cc pc = .ok (.ineg, 1))  (k : qq_Go M hp bc bs (pc + 1) loc (.int (-x) :: rest) P PX) : qq_Go M hp bc bs pc loc (.int x :: rest) P PX :=
  fun D base ad p l e R s m args below meth c H locs cells slots ls C1 C2 => lv_ineg C1.1 C1.2.1 hdg  (k D base ad p l e R s m args below meth c H locs cells slots ls C1 (qq_Ck (fun h => qq_wi (qq_wt h)) C2))
theorem qq_lneg {M : qq_M} {hp : qq_H} {bc bs pc : Nat} {loc : List (Nat × Value)} {rest : List Value} {P : Option Value → qq_H → Prop} {PX : String → qq_H → Prop} {x : Int64} (hdg : decode M.cc pc = .ok (.lneg, 1))  (k : qq_Go M hp bc bs (pc + 1) loc (.long (-x) :: rest) P PX) : qq_Go M hp bc bs pc loc (.long x :: rest) P PX :=
  fun D base ad p l e R s m args below meth c H locs cells slots ls C1 C2 => lv_lneg C1.1 C1.2.1 hdg  (k D base ad p l e R s m args below meth c H locs cells slots ls C1 (qq_Ck (fun h => qq_wj (qq_wt h)) C2))
theorem qq_i2l {M : qq_M} {hp : qq_H} {bc bs pc : Nat} {loc : List (Nat × Value)} {rest : List Value} {P : Option Value → qq_H → Prop} {PX : String → qq_H → Prop} {x : Int32} (hdg : decode M.cc pc = .ok (.i2l, 1))  (k : qq_Go M hp bc bs (pc + 1) loc (.long x.toInt64 :: rest) P PX) : qq_Go M hp bc bs pc loc (.int x :: rest) P PX :=
  fun D base ad p l e R s m args below meth c H locs cells slots ls C1 C2 => lv_i2l C1.1 C1.2.1 hdg rfl (k D base ad p l e R s m args below meth c H locs cells slots ls C1 (qq_Ck (fun h => qq_wj (qq_wt h)) C2))
theorem qq_l2i {M : qq_M} {hp : qq_H} {bc bs pc : Nat} {loc : List (Nat × Value)} {rest : List Value} {P : Option Value → qq_H → Prop} {PX : String → qq_H → Prop} {x : Int64} (hdg : decode M.cc pc = .ok (.l2i, 1))  (k : qq_Go M hp bc bs (pc + 1) loc (.int x.toInt32 :: rest) P PX) : qq_Go M hp bc bs pc loc (.long x :: rest) P PX :=
  fun D base ad p l e R s m args below meth c H locs cells slots ls C1 C2 => lv_l2i C1.1 C1.2.1 hdg rfl (k D base ad p l e R s m args below meth c H locs cells slots ls C1 (qq_Ck (fun h => qq_wi (qq_wt h)) C2))
theorem qq_i2b {M : qq_M} {hp : qq_H} {bc bs pc : Nat} {loc : List (Nat × Value)} {rest : List Value} {P : Option Value → qq_H → Prop} {PX : String → qq_H → Prop} {x : Int32} (hdg : decode M.cc pc = .ok (.i2b, 1))  (k : qq_Go M hp bc bs (pc + 1) loc (.int x.toInt8.toInt32 :: rest) P PX) : qq_Go M hp bc bs pc loc (.int x :: rest) P PX :=
  fun D base ad p l e R s m args below meth c H locs cells slots ls C1 C2 => lv_i2b C1.1 C1.2.1 hdg rfl (k D base ad p l e R s m args below meth c H locs cells slots ls C1 (qq_Ck (fun h => qq_wi (qq_wt h)) C2))
theorem qq_i2c {M : qq_M} {hp : qq_H} {bc bs pc : Nat} {loc : List (Nat × Value)} {rest : List Value} {P : Option Value → qq_H → Prop} {PX : String → qq_H → Prop} {x : Int32} (hdg : decode M.cc pc = .ok (.i2c, 1))  (k : qq_Go M hp bc bs (pc + 1) loc (.int (x.toUInt32 % 65536).toInt32 :: rest) P PX) : qq_Go M hp bc bs pc loc (.int x :: rest) P PX :=
  fun D base ad p l e R s m args below meth c H locs cells slots ls C1 C2 => lv_i2c C1.1 C1.2.1 hdg rfl (k D base ad p l e R s m args below meth c H locs cells slots ls C1 (qq_Ck (fun h => qq_wi (qq_wt h)) C2))
theorem qq_iushr {M : qq_M} {hp : qq_H} {bc bs pc : Nat} {loc : List (Nat × Value)} {rest : List Value} {P : Option Value → qq_H → Prop} {PX : String → qq_H → Prop} {x y : Int32} (hdg : decode M.cc pc = .ok (.iushr, 1))  (k : qq_Go M hp bc bs (pc + 1) loc (.int (x.toUInt32 >>> (y.toUInt32 &&& Int32.toUInt32 31)).toInt32 :: rest) P PX) : qq_Go M hp bc bs pc loc (.int y :: .int x :: rest) P PX :=
  fun D base ad p l e R s m args below meth c H locs cells slots ls C1 C2 => lv_iushr C1.1 C1.2.1 hdg rfl (k D base ad p l e R s m args below meth c H locs cells slots ls C1 (qq_Ck (fun h => qq_wi (qq_wt (qq_wt h))) C2))
theorem qq_lushr {M : qq_M} {hp : qq_H} {bc bs pc : Nat} {loc : List (Nat × Value)} {rest : List Value} {P : Option Value → qq_H → Prop} {PX : String → qq_H → Prop} {x : Int64} {y : Int32} (hdg : decode M.cc pc = .ok (.lushr, 1))  (k : qq_Go M hp bc bs (pc + 1) loc (.long (x.toUInt64 >>> (y.toInt64.toUInt64 &&& Int64.toUInt64 63)).toInt64 :: rest) P PX) : qq_Go M hp bc bs pc loc (.int y :: .long x :: rest) P PX :=
  fun D base ad p l e R s m args below meth c H locs cells slots ls C1 C2 => lv_lushr C1.1 C1.2.1 hdg rfl (k D base ad p l e R s m args below meth c H locs cells slots ls C1 (qq_Ck (fun h => qq_wj (qq_wt (qq_wt h))) C2))
theorem qq_lshl {M : qq_M} {hp : qq_H} {bc bs pc : Nat} {loc : List (Nat × Value)} {rest : List Value} {P : Option Value → qq_H → Prop} {PX : String → qq_H → Prop} {x : Int64} {y : Int32} (hdg : decode M.cc pc = .ok (.lshl, 1))  (k : qq_Go M hp bc bs (pc + 1) loc (.long (x <<< (y.toInt64 &&& 63)) :: rest) P PX) : qq_Go M hp bc bs pc loc (.int y :: .long x :: rest) P PX :=
  fun D base ad p l e R s m args below meth c H locs cells slots ls C1 C2 => lv_lshl C1.1 C1.2.1 hdg rfl (k D base ad p l e R s m args below meth c H locs cells slots ls C1 (qq_Ck (fun h => qq_wj (qq_wt (qq_wt h))) C2))
theorem qq_lshr {M : qq_M} {hp : qq_H} {bc bs pc : Nat} {loc : List (Nat × Value)} {rest : List Value} {P : Option Value → qq_H → Prop} {PX : String → qq_H → Prop} {x : Int64} {y : Int32} (hdg : decode M.cc pc = .ok (.lshr, 1))  (k : qq_Go M hp bc bs (pc + 1) loc (.long (x >>> (y.toInt64 &&& 63)) :: rest) P PX) : qq_Go M hp bc bs pc loc (.int y :: .long x :: rest) P PX :=
  fun D base ad p l e R s m args below meth c H locs cells slots ls C1 C2 => lv_lshr C1.1 C1.2.1 hdg rfl (k D base ad p l e R s m args below meth c H locs cells slots ls C1 (qq_Ck (fun h => qq_wj (qq_wt (qq_wt h))) C2))
theorem qq_dmul {M : qq_M} {hp : qq_H} {bc bs pc : Nat} {loc : List (Nat × Value)} {rest : List Value} {P : Option Value → qq_H → Prop} {PX : String → qq_H → Prop} {x y : UInt64} (hdg : decode M.cc pc = .ok (.dmul, 1)) (hne : vf_n64 (FP.dmul x y)) (k : qq_Go M hp bc bs (pc + 1) loc (.double (FP.dmul x y) :: rest) P PX) : qq_Go M hp bc bs pc loc (.double y :: .double x :: rest) P PX :=
  fun D base ad p l e R s m args below meth c H locs cells slots ls C1 C2 => lv_dmul C1.1 C1.2.1 hdg hne (k D base ad p l e R s m args below meth c H locs cells slots ls C1 (qq_Ck (fun h => qq_wd (qq_wt (qq_wt h))) C2))
theorem qq_ddiv {M : qq_M} {hp : qq_H} {bc bs pc : Nat} {loc : List (Nat × Value)} {rest : List Value} {P : Option Value → qq_H → Prop} {PX : String → qq_H → Prop} {x y : UInt64} (hdg : decode M.cc pc = .ok (.ddiv, 1)) (hne : vf_n64 (FP.ddiv x y)) (k : qq_Go M hp bc bs (pc + 1) loc (.double (FP.ddiv x y) :: rest) P PX) : qq_Go M hp bc bs pc loc (.double y :: .double x :: rest) P PX :=
  fun D base ad p l e R s m args below meth c H locs cells slots ls C1 C2 => lv_ddiv C1.1 C1.2.1 hdg hne (k D base ad p l e R s m args below meth c H locs cells slots ls C1 (qq_Ck (fun h => qq_wd (qq_wt (qq_wt h))) C2))
theorem qq_dsub {M : qq_M} {hp : qq_H} {bc bs pc : Nat} {loc : List (Nat × Value)} {rest : List Value} {P : Option Value → qq_H → Prop} {PX : String → qq_H → Prop} {x y : UInt64} (hdg : decode M.cc pc = .ok (.dsub, 1)) (hne : vf_n64 (FP.dsub x y)) (k : qq_Go M hp bc bs (pc + 1) loc (.double (FP.dsub x y) :: rest) P PX) : qq_Go M hp bc bs pc loc (.double y :: .double x :: rest) P PX :=
  fun D base ad p l e R s m args below meth c H locs cells slots ls C1 C2 => lv_dsub C1.1 C1.2.1 hdg hne (k D base ad p l e R s m args below meth c H locs cells slots ls C1 (qq_Ck (fun h => qq_wd (qq_wt (qq_wt h))) C2))
theorem qq_dneg {M : qq_M} {hp : qq_H} {bc bs pc : Nat} {loc : List (Nat × Value)} {rest : List Value} {P : Option Value → qq_H → Prop} {PX : String → qq_H → Prop} {x : UInt64} (hdg : decode M.cc pc = .ok (.dneg, 1))  (k : qq_Go M hp bc bs (pc + 1) loc (.double (FP.dneg x) :: rest) P PX) : qq_Go M hp bc bs pc loc (.double x :: rest) P PX :=
  fun D base ad p l e R s m args below meth c H locs cells slots ls C1 C2 => lv_dneg C1.1 C1.2.1 hdg  (k D base ad p l e R s m args below meth c H locs cells slots ls C1 (qq_Ck (fun h => qq_wd (qq_wt h)) C2))
theorem qq_dcmp {M : qq_M} {hp : qq_H} {bc bs pc : Nat} {loc : List (Nat × Value)} {rest : List Value} {P : Option Value → qq_H → Prop} {PX : String → qq_H → Prop} {x y : UInt64} {op : CmpOp} (hdg : decode M.cc pc = .ok (.dcmp op, 1))  (k : qq_Go M hp bc bs (pc + 1) loc (.int (Op.cmpValue (FP.dcmp x y) op) :: rest) P PX) : qq_Go M hp bc bs pc loc (.double y :: .double x :: rest) P PX :=
  fun D base ad p l e R s m args below meth c H locs cells slots ls C1 C2 => lv_dcmp C1.1 C1.2.1 hdg  (k D base ad p l e R s m args below meth c H locs cells slots ls C1 (qq_Ck (fun h => qq_wi (qq_wt (qq_wt h))) C2))
theorem qq_l2d {M : qq_M} {hp : qq_H} {bc bs pc : Nat} {loc : List (Nat × Value)} {rest : List Value} {P : Option Value → qq_H → Prop} {PX : String → qq_H → Prop} {x : Int64} (hdg : decode M.cc pc = .ok (.l2d, 1))  (k : qq_Go M hp bc bs (pc + 1) loc (.double (FP.l2d x) :: rest) P PX) : qq_Go M hp bc bs pc loc (.long x :: rest) P PX :=
  fun D base ad p l e R s m args below meth c H locs cells slots ls C1 C2 => lv_l2d C1.1 C1.2.1 hdg  (k D base ad p l e R s m args below meth c H locs cells slots ls C1 (qq_Ck (fun h => qq_wd (qq_wt h)) C2))
theorem qq_dup {M : qq_M} {hp : qq_H} {bc bs pc : Nat} {loc : List (Nat × Value)} {rest : List Value} {P : Option Value → qq_H → Prop} {PX : String → qq_H → Prop} {va : Value} (hdg : decode M.cc pc = .ok (.dup, 1)) (hva : va.category = 1) (k : qq_Go M hp bc bs (pc + 1) loc (va :: va :: rest) P PX) : qq_Go M hp bc bs pc loc (va :: rest) P PX :=
  fun D base ad p l e R s m args below meth c H locs cells slots ls C1 C2 => lv_dup C1.1 C1.2.1 hdg ((qq_cat _ _).trans hva) (k D base ad p l e R s m args below meth c H locs cells slots ls C1 (qq_Ck (fun h => qq_wu (qq_wh h) h) C2))
theorem qq_pop {M : qq_M} {hp : qq_H} {bc bs pc : Nat} {loc : List (Nat × Value)} {rest : List Value} {P : Option Value → qq_H → Prop} {PX : String → qq_H → Prop} {va : Value} (hdg : decode M.cc pc = .ok (.pop, 1)) (hva : va.category = 1) (k : qq_Go M hp bc bs (pc + 1) loc (rest) P PX) : qq_Go M hp bc bs pc loc (va :: rest) P PX :=
  fun D base ad p l e R s m args below meth c H locs cells slots ls C1 C2 => lv_pop C1.1 C1.2.1 hdg ((qq_cat _ _).trans hva) (k D base ad p l e R s m args below meth c H locs cells slots ls C1 (qq_Ck (fun h => qq_wt h) C2))
theorem qq_pop2 {M : qq_M} {hp : qq_H} {bc bs pc : Nat} {loc : List (Nat × Value)} {rest : List Value} {P : Option Value → qq_H → Prop} {PX : String → qq_H → Prop} {va : Value} (hdg : decode M.cc pc = .ok (.pop2, 1)) (hva : va.category = 2) (k : qq_Go M hp bc bs (pc + 1) loc (rest) P PX) : qq_Go M hp bc bs pc loc (va :: rest) P PX :=
  fun D base ad p l e R s m args below meth c H locs cells slots ls C1 C2 => lv_pop2_2 C1.1 C1.2.1 hdg ((qq_cat _ _).trans hva) (k D base ad p l e R s m args below meth c H locs cells slots ls C1 (qq_Ck (fun h => qq_wt h) C2))
theorem qq_dup2 {M : qq_M} {hp : qq_H} {bc bs pc : Nat} {loc : List (Nat × Value)} {rest : List Value} {P : Option Value → qq_H → Prop} {PX : String → qq_H → Prop} {va vb : Value} (hdg : decode M.cc pc = .ok (.dup2, 1)) (hva : va.category = 1) (hvb : vb.category = 1) (k : qq_Go M hp bc bs (pc + 1) loc (va :: vb :: va :: vb :: rest) P PX) : qq_Go M hp bc bs pc loc (va :: vb :: rest) P PX :=
  fun D base ad p l e R s m args below meth c H locs cells slots ls C1 C2 => lv_dup2_11 C1.1 C1.2.1 hdg ((qq_cat _ _).trans hva) ((qq_cat _ _).trans hvb) (k D base ad p l e R s m args below meth c H locs cells slots ls C1 (qq_Ck (fun h => qq_wu (qq_wh h) (qq_wu (qq_wh (qq_wt h)) h)) C2))
theorem qq_dup_x1 {M : qq_M} {hp : qq_H} {bc bs pc : Nat} {loc : List (Nat × Value)} {rest : List Value} {P : Option Value → qq_H → Prop} {PX : String → qq_H → Prop} {va vb : Value} (hdg : decode M.cc pc = .ok (.dup_x1, 1)) (hva : va.category = 1) (hvb : vb.category = 1) (k : qq_Go M hp bc bs (pc + 1) loc (va :: vb :: va :: rest) P PX) : qq_Go M hp bc bs pc loc (va :: vb :: rest) P PX :=
  fun D base ad p l e R s m args below meth c H locs cells slots ls C1 C2 => lv_dup_x1 C1.1 C1.2.1 hdg ((qq_cat _ _).trans hva) ((qq_cat _ _).trans hvb) (k D base ad p l e R s m args below meth c H locs cells slots ls C1 (qq_Ck (fun h => qq_wu (qq_wh h) (qq_wu (qq_wh (qq_wt h)) (qq_wu (qq_wh h) (qq_wt (qq_wt h))))) C2))
theorem qq_lcmp {M : qq_M} {hp : qq_H} {bc bs pc : Nat} {loc : List (Nat × Value)} {rest : List Value} {P : Option Value → qq_H → Prop} {PX : String → qq_H → Prop} {x y : Int64} (hdg : decode M.cc pc = .ok (.lcmp, 1))  (k : qq_Go M hp bc bs (pc + 1) loc (.int (lg_cmp x y) :: rest) P PX) : qq_Go M hp bc bs pc loc (.long y :: .long x :: rest) P PX :=
  fun D base ad p l e R s m args below meth c H locs cells slots ls C1 C2 => W.lcmp C1.1 C1.2.1 hdg  (k D base ad p l e R s m args below meth c H locs cells slots ls C1 (qq_Ck (fun h => qq_wi (qq_wt (qq_wt h))) C2))
theorem qq_castN {M : qq_M} {hp : qq_H} {bc bs pc : Nat} {loc : List (Nat × Value)} {rest : List Value} {P : Option Value → qq_H → Prop} {PX : String → qq_H → Prop} {index : Nat} (hdg : decode M.cc pc = .ok (.checkcast index, 3))  (k : qq_Go M hp bc bs (pc + 3) loc (.null :: rest) P PX) : qq_Go M hp bc bs pc loc (.null :: rest) P PX :=
  fun D base ad p l e R s m args below meth c H locs cells slots ls C1 C2 => lv_castN C1.1 C1.2.1 hdg  (k D base ad p l e R s m args below meth c H locs cells slots ls C1 (qq_Ck (fun h => h) C2))
theorem qq_ldc {M : qq_M} {hp : qq_H} {bc bs pc : Nat} {loc : List (Nat × Value)} {rest : List Value} {P : Option Value → qq_H → Prop} {PX : String → qq_H → Prop} {index : Nat} {v : Int32} (hdg : decode M.cc pc = .ok (.ldc index, 2)) (hw : Cond.constant M.y.cls index v ∈ lw_gd) (k : qq_Go M hp bc bs (pc + 2) loc (.int v :: rest) P PX) : qq_Go M hp bc bs pc loc (rest) P PX :=
  fun D base ad p l e R s m args below meth c H locs cells slots ls C1 C2 => lv_ldc C1.1 C1.2.1 C1.2.2.2.2.1 (C1.2.2.2.2.2.2.2.1 _ hw) hdg (k D base ad p l e R s m args below meth c H locs cells slots ls C1 (qq_Ck (fun h => qq_wi h) C2))
theorem qq_ldc2 {M : qq_M} {hp : qq_H} {bc bs pc : Nat} {loc : List (Nat × Value)} {rest : List Value} {P : Option Value → qq_H → Prop} {PX : String → qq_H → Prop} {index : Nat} {v : Int64} (hdg : decode M.cc pc = .ok (.ldc2_w index, 3)) (hw : Cond.constantLong M.y.cls index v ∈ lw_gd) (k : qq_Go M hp bc bs (pc + 3) loc (.long v :: rest) P PX) : qq_Go M hp bc bs pc loc (rest) P PX :=
  fun D base ad p l e R s m args below meth c H locs cells slots ls C1 C2 => lv_ldc2 C1.1 C1.2.1 C1.2.2.2.2.1 (C1.2.2.2.2.2.2.2.1 _ hw) hdg (k D base ad p l e R s m args below meth c H locs cells slots ls C1 (qq_Ck (fun h => qq_wj h) C2))
theorem qq_ldc2d {M : qq_M} {hp : qq_H} {bc bs pc : Nat} {loc : List (Nat × Value)} {rest : List Value} {P : Option Value → qq_H → Prop} {PX : String → qq_H → Prop} {index : Nat} {v : UInt64} (hdg : decode M.cc pc = .ok (.ldc2_w index, 3)) (hw : Cond.constantDouble M.y.cls index v ∈ lw_gd) (k : qq_Go M hp bc bs (pc + 3) loc (.double v :: rest) P PX) : qq_Go M hp bc bs pc loc (rest) P PX :=
  fun D base ad p l e R s m args below meth c H locs cells slots ls C1 C2 => lv_ldc2d C1.1 C1.2.1 C1.2.2.2.2.1 (C1.2.2.2.2.2.2.2.1 _ hw) hdg (k D base ad p l e R s m args below meth c H locs cells slots ls C1 (qq_Ck (fun h => qq_wd h) C2))
theorem qq_if_eq {M : qq_M} {hp : qq_H} {bc bs pc : Nat} {loc : List (Nat × Value)} {rest : List Value} {P : Option Value → qq_H → Prop} {PX : String → qq_H → Prop} {x : Int32} {off : Int} {tgt : Nat} (hdg : decode M.cc pc = .ok (.ifCond .eq off, 3)) (ht : (pc : Int) + off = (tgt : Int)) (kt : (x = 0) → qq_Go M hp bc bs tgt loc rest P PX) (kf : ¬ (x = 0) → qq_Go M hp bc bs (pc + 3) loc rest P PX) : qq_Go M hp bc bs pc loc (.int x :: rest) P PX :=
  fun D base ad p l e R s m args below meth c H locs cells slots ls C1 C2 => lv_if_eq C1.1 C1.2.1 hdg ht (fun z => kt z D base ad p l e R s m args below meth c H locs cells slots ls C1 (qq_Ck (fun h => qq_wt h) C2)) (fun z => kf z D base ad p l e R s m args below meth c H locs cells slots ls C1 (qq_Ck (fun h => qq_wt h) C2))
theorem qq_icmp_eq {M : qq_M} {hp : qq_H} {bc bs pc : Nat} {loc : List (Nat × Value)} {rest : List Value} {P : Option Value → qq_H → Prop} {PX : String → qq_H → Prop} {x y : Int32} {off : Int} {tgt : Nat} (hdg : decode M.cc pc = .ok (.if_icmp .eq off, 3)) (ht : (pc : Int) + off = (tgt : Int)) (kt : (x = y) → qq_Go M hp bc bs tgt loc rest P PX) (kf : ¬ (x = y) → qq_Go M hp bc bs (pc + 3) loc rest P PX) : qq_Go M hp bc bs pc loc (.int y :: .int x :: rest) P PX :=
  fun D base ad p l e R s m args below meth c H locs cells slots ls C1 C2 => lv_icmp_eq C1.1 C1.2.1 hdg ht (fun z => kt z D base ad p l e R s m args below meth c H locs cells slots ls C1 (qq_Ck (fun h => qq_wt (qq_wt h)) C2)) (fun z => kf z D base ad p l e R s m args below meth c H locs cells slots ls C1 (qq_Ck (fun h => qq_wt (qq_wt h)) C2))
theorem qq_if_ne {M : qq_M} {hp : qq_H} {bc bs pc : Nat} {loc : List (Nat × Value)} {rest : List Value} {P : Option Value → qq_H → Prop} {PX : String → qq_H → Prop} {x : Int32} {off : Int} {tgt : Nat} (hdg : decode M.cc pc = .ok (.ifCond .ne off, 3)) (ht : (pc : Int) + off = (tgt : Int)) (kt : (¬ x = 0) → qq_Go M hp bc bs tgt loc rest P PX) (kf : x = 0 → qq_Go M hp bc bs (pc + 3) loc rest P PX) : qq_Go M hp bc bs pc loc (.int x :: rest) P PX :=
  fun D base ad p l e R s m args below meth c H locs cells slots ls C1 C2 => lv_if_ne C1.1 C1.2.1 hdg ht (fun z => kt z D base ad p l e R s m args below meth c H locs cells slots ls C1 (qq_Ck (fun h => qq_wt h) C2)) (fun z => kf z D base ad p l e R s m args below meth c H locs cells slots ls C1 (qq_Ck (fun h => qq_wt h) C2))
theorem qq_icmp_ne {M : qq_M} {hp : qq_H} {bc bs pc : Nat} {loc : List (Nat × Value)} {rest : List Value} {P : Option Value → qq_H → Prop} {PX : String → qq_H → Prop} {x y : Int32} {off : Int} {tgt : Nat} (hdg : decode M.cc pc = .ok (.if_icmp .ne off, 3)) (ht : (pc : Int) + off = (tgt : Int)) (kt : (¬ x = y) → qq_Go M hp bc bs tgt loc rest P PX) (kf : x = y → qq_Go M hp bc bs (pc + 3) loc rest P PX) : qq_Go M hp bc bs pc loc (.int y :: .int x :: rest) P PX :=
  fun D base ad p l e R s m args below meth c H locs cells slots ls C1 C2 => lv_icmp_ne C1.1 C1.2.1 hdg ht (fun z => kt z D base ad p l e R s m args below meth c H locs cells slots ls C1 (qq_Ck (fun h => qq_wt (qq_wt h)) C2)) (fun z => kf z D base ad p l e R s m args below meth c H locs cells slots ls C1 (qq_Ck (fun h => qq_wt (qq_wt h)) C2))
theorem qq_if_lt {M : qq_M} {hp : qq_H} {bc bs pc : Nat} {loc : List (Nat × Value)} {rest : List Value} {P : Option Value → qq_H → Prop} {PX : String → qq_H → Prop} {x : Int32} {off : Int} {tgt : Nat} (hdg : decode M.cc pc = .ok (.ifCond .lt off, 3)) (ht : (pc : Int) + off = (tgt : Int)) (kt : (x < 0) → qq_Go M hp bc bs tgt loc rest P PX) (kf : ¬ (x < 0) → qq_Go M hp bc bs (pc + 3) loc rest P PX) : qq_Go M hp bc bs pc loc (.int x :: rest) P PX :=
  fun D base ad p l e R s m args below meth c H locs cells slots ls C1 C2 => lv_if_lt C1.1 C1.2.1 hdg ht (fun z => kt z D base ad p l e R s m args below meth c H locs cells slots ls C1 (qq_Ck (fun h => qq_wt h) C2)) (fun z => kf z D base ad p l e R s m args below meth c H locs cells slots ls C1 (qq_Ck (fun h => qq_wt h) C2))
theorem qq_icmp_lt {M : qq_M} {hp : qq_H} {bc bs pc : Nat} {loc : List (Nat × Value)} {rest : List Value} {P : Option Value → qq_H → Prop} {PX : String → qq_H → Prop} {x y : Int32} {off : Int} {tgt : Nat} (hdg : decode M.cc pc = .ok (.if_icmp .lt off, 3)) (ht : (pc : Int) + off = (tgt : Int)) (kt : (x < y) → qq_Go M hp bc bs tgt loc rest P PX) (kf : ¬ (x < y) → qq_Go M hp bc bs (pc + 3) loc rest P PX) : qq_Go M hp bc bs pc loc (.int y :: .int x :: rest) P PX :=
  fun D base ad p l e R s m args below meth c H locs cells slots ls C1 C2 => lv_icmp_lt C1.1 C1.2.1 hdg ht (fun z => kt z D base ad p l e R s m args below meth c H locs cells slots ls C1 (qq_Ck (fun h => qq_wt (qq_wt h)) C2)) (fun z => kf z D base ad p l e R s m args below meth c H locs cells slots ls C1 (qq_Ck (fun h => qq_wt (qq_wt h)) C2))
theorem qq_if_ge {M : qq_M} {hp : qq_H} {bc bs pc : Nat} {loc : List (Nat × Value)} {rest : List Value} {P : Option Value → qq_H → Prop} {PX : String → qq_H → Prop} {x : Int32} {off : Int} {tgt : Nat} (hdg : decode M.cc pc = .ok (.ifCond .ge off, 3)) (ht : (pc : Int) + off = (tgt : Int)) (kt : (0 ≤ x) → qq_Go M hp bc bs tgt loc rest P PX) (kf : ¬ (0 ≤ x) → qq_Go M hp bc bs (pc + 3) loc rest P PX) : qq_Go M hp bc bs pc loc (.int x :: rest) P PX :=
  fun D base ad p l e R s m args below meth c H locs cells slots ls C1 C2 => lv_if_ge C1.1 C1.2.1 hdg ht (fun z => kt z D base ad p l e R s m args below meth c H locs cells slots ls C1 (qq_Ck (fun h => qq_wt h) C2)) (fun z => kf z D base ad p l e R s m args below meth c H locs cells slots ls C1 (qq_Ck (fun h => qq_wt h) C2))
theorem qq_icmp_ge {M : qq_M} {hp : qq_H} {bc bs pc : Nat} {loc : List (Nat × Value)} {rest : List Value} {P : Option Value → qq_H → Prop} {PX : String → qq_H → Prop} {x y : Int32} {off : Int} {tgt : Nat} (hdg : decode M.cc pc = .ok (.if_icmp .ge off, 3)) (ht : (pc : Int) + off = (tgt : Int)) (kt : (y ≤ x) → qq_Go M hp bc bs tgt loc rest P PX) (kf : ¬ (y ≤ x) → qq_Go M hp bc bs (pc + 3) loc rest P PX) : qq_Go M hp bc bs pc loc (.int y :: .int x :: rest) P PX :=
  fun D base ad p l e R s m args below meth c H locs cells slots ls C1 C2 => lv_icmp_ge C1.1 C1.2.1 hdg ht (fun z => kt z D base ad p l e R s m args below meth c H locs cells slots ls C1 (qq_Ck (fun h => qq_wt (qq_wt h)) C2)) (fun z => kf z D base ad p l e R s m args below meth c H locs cells slots ls C1 (qq_Ck (fun h => qq_wt (qq_wt h)) C2))
theorem qq_if_gt {M : qq_M} {hp : qq_H} {bc bs pc : Nat} {loc : List (Nat × Value)} {rest : List Value} {P : Option Value → qq_H → Prop} {PX : String → qq_H → Prop} {x : Int32} {off : Int} {tgt : Nat} (hdg : decode M.cc pc = .ok (.ifCond .gt off, 3)) (ht : (pc : Int) + off = (tgt : Int)) (kt : (0 < x) → qq_Go M hp bc bs tgt loc rest P PX) (kf : ¬ (0 < x) → qq_Go M hp bc bs (pc + 3) loc rest P PX) : qq_Go M hp bc bs pc loc (.int x :: rest) P PX :=
  fun D base ad p l e R s m args below meth c H locs cells slots ls C1 C2 => lv_if_gt C1.1 C1.2.1 hdg ht (fun z => kt z D base ad p l e R s m args below meth c H locs cells slots ls C1 (qq_Ck (fun h => qq_wt h) C2)) (fun z => kf z D base ad p l e R s m args below meth c H locs cells slots ls C1 (qq_Ck (fun h => qq_wt h) C2))
theorem qq_icmp_gt {M : qq_M} {hp : qq_H} {bc bs pc : Nat} {loc : List (Nat × Value)} {rest : List Value} {P : Option Value → qq_H → Prop} {PX : String → qq_H → Prop} {x y : Int32} {off : Int} {tgt : Nat} (hdg : decode M.cc pc = .ok (.if_icmp .gt off, 3)) (ht : (pc : Int) + off = (tgt : Int)) (kt : (y < x) → qq_Go M hp bc bs tgt loc rest P PX) (kf : ¬ (y < x) → qq_Go M hp bc bs (pc + 3) loc rest P PX) : qq_Go M hp bc bs pc loc (.int y :: .int x :: rest) P PX :=
  fun D base ad p l e R s m args below meth c H locs cells slots ls C1 C2 => lv_icmp_gt C1.1 C1.2.1 hdg ht (fun z => kt z D base ad p l e R s m args below meth c H locs cells slots ls C1 (qq_Ck (fun h => qq_wt (qq_wt h)) C2)) (fun z => kf z D base ad p l e R s m args below meth c H locs cells slots ls C1 (qq_Ck (fun h => qq_wt (qq_wt h)) C2))
theorem qq_if_le {M : qq_M} {hp : qq_H} {bc bs pc : Nat} {loc : List (Nat × Value)} {rest : List Value} {P : Option Value → qq_H → Prop} {PX : String → qq_H → Prop} {x : Int32} {off : Int} {tgt : Nat} (hdg : decode M.cc pc = .ok (.ifCond .le off, 3)) (ht : (pc : Int) + off = (tgt : Int)) (kt : (x ≤ 0) → qq_Go M hp bc bs tgt loc rest P PX) (kf : ¬ (x ≤ 0) → qq_Go M hp bc bs (pc + 3) loc rest P PX) : qq_Go M hp bc bs pc loc (.int x :: rest) P PX :=
  fun D base ad p l e R s m args below meth c H locs cells slots ls C1 C2 => lv_if_le C1.1 C1.2.1 hdg ht (fun z => kt z D base ad p l e R s m args below meth c H locs cells slots ls C1 (qq_Ck (fun h => qq_wt h) C2)) (fun z => kf z D base ad p l e R s m args below meth c H locs cells slots ls C1 (qq_Ck (fun h => qq_wt h) C2))
theorem qq_icmp_le {M : qq_M} {hp : qq_H} {bc bs pc : Nat} {loc : List (Nat × Value)} {rest : List Value} {P : Option Value → qq_H → Prop} {PX : String → qq_H → Prop} {x y : Int32} {off : Int} {tgt : Nat} (hdg : decode M.cc pc = .ok (.if_icmp .le off, 3)) (ht : (pc : Int) + off = (tgt : Int)) (kt : (x ≤ y) → qq_Go M hp bc bs tgt loc rest P PX) (kf : ¬ (x ≤ y) → qq_Go M hp bc bs (pc + 3) loc rest P PX) : qq_Go M hp bc bs pc loc (.int y :: .int x :: rest) P PX :=
  fun D base ad p l e R s m args below meth c H locs cells slots ls C1 C2 => lv_icmp_le C1.1 C1.2.1 hdg ht (fun z => kt z D base ad p l e R s m args below meth c H locs cells slots ls C1 (qq_Ck (fun h => qq_wt (qq_wt h)) C2)) (fun z => kf z D base ad p l e R s m args below meth c H locs cells slots ls C1 (qq_Ck (fun h => qq_wt (qq_wt h)) C2))
theorem qq_goto {M : qq_M} {hp : qq_H} {bc bs pc : Nat} {loc : List (Nat × Value)} {rest : List Value} {P : Option Value → qq_H → Prop} {PX : String → qq_H → Prop} {off : Int} {tgt : Nat} (hdg : decode M.cc pc = .ok (.goto off, 3)) (ht : (pc : Int) + off = (tgt : Int)) (k : qq_Go M hp bc bs tgt loc rest P PX) : qq_Go M hp bc bs pc loc rest P PX :=
  fun D base ad p l e R s m args below meth c H locs cells slots ls C1 C2 => lv_goto C1.1 C1.2.1 hdg ht (k D base ad p l e R s m args below meth c H locs cells slots ls C1 C2)
theorem qq_ifnonnull {M : qq_M} {hp : qq_H} {bc bs pc : Nat} {loc : List (Nat × Value)} {rest : List Value} {P : Option Value → qq_H → Prop} {PX : String → qq_H → Prop} {x : Nat} {off : Int} {tgt : Nat} (hdg : decode M.cc pc = .ok (.ifnonnull off, 3)) (ht : (pc : Int) + off = (tgt : Int)) (k : qq_Go M hp bc bs tgt loc rest P PX) : qq_Go M hp bc bs pc loc (.ref x :: rest) P PX :=
  fun D base ad p l e R s m args below meth c H locs cells slots ls C1 C2 => lv_ifnonnull C1.1 C1.2.1 hdg ht (k D base ad p l e R s m args below meth c H locs cells slots ls C1 (qq_Ck (fun h => qq_wt h) C2))
theorem qq_ifnull {M : qq_M} {hp : qq_H} {bc bs pc : Nat} {loc : List (Nat × Value)} {rest : List Value} {P : Option Value → qq_H → Prop} {PX : String → qq_H → Prop} {x : Nat} {off : Int} (hdg : decode M.cc pc = .ok (.ifnull off, 3)) (k : qq_Go M hp bc bs (pc + 3) loc rest P PX) : qq_Go M hp bc bs pc loc (.ref x :: rest) P PX :=
  fun D base ad p l e R s m args below meth c H locs cells slots ls C1 C2 => lv_ifnull C1.1 C1.2.1 hdg (k D base ad p l e R s m args below meth c H locs cells slots ls C1 (qq_Ck (fun h => qq_wt h) C2))
theorem qq_ifnullN {M : qq_M} {hp : qq_H} {bc bs pc : Nat} {loc : List (Nat × Value)} {rest : List Value} {P : Option Value → qq_H → Prop} {PX : String → qq_H → Prop} {off : Int} {tgt : Nat} (hdg : decode M.cc pc = .ok (.ifnull off, 3)) (ht : (pc : Int) + off = (tgt : Int)) (k : qq_Go M hp bc bs tgt loc rest P PX) : qq_Go M hp bc bs pc loc (.null :: rest) P PX :=
  fun D base ad p l e R s m args below meth c H locs cells slots ls C1 C2 => lv_ifnullN C1.1 C1.2.1 hdg ht (k D base ad p l e R s m args below meth c H locs cells slots ls C1 (qq_Ck (fun h => qq_wt h) C2))
theorem qq_ifnonnullN {M : qq_M} {hp : qq_H} {bc bs pc : Nat} {loc : List (Nat × Value)} {rest : List Value} {P : Option Value → qq_H → Prop} {PX : String → qq_H → Prop} {off : Int} (hdg : decode M.cc pc = .ok (.ifnonnull off, 3)) (k : qq_Go M hp bc bs (pc + 3) loc rest P PX) : qq_Go M hp bc bs pc loc (.null :: rest) P PX :=
  fun D base ad p l e R s m args below meth c H locs cells slots ls C1 C2 => lv_ifnonnullN C1.1 C1.2.1 hdg (k D base ad p l e R s m args below meth c H locs cells slots ls C1 (qq_Ck (fun h => qq_wt h) C2))
theorem qq_tabOut {M : qq_M} {hp : qq_H} {bc bs pc : Nat} {loc : List (Nat × Value)} {rest : List Value} {P : Option Value → qq_H → Prop} {PX : String → qq_H → Prop} {dflt lo hi : Int} {offs : Array Int} {len tgt : Nat} {x : Int32} (hdg : decode M.cc pc = .ok (.tableswitch dflt lo hi offs, len)) (h9 : x.toInt < lo ∨ hi < x.toInt) (ht : (pc : Int) + dflt = (tgt : Int)) (k : qq_Go M hp bc bs tgt loc rest P PX) : qq_Go M hp bc bs pc loc (.int x :: rest) P PX :=
  fun D base ad p l e R s m args below meth c H locs cells slots ls C1 C2 => lv_tableOut C1.1 C1.2.1 hdg h9 ht (k D base ad p l e R s m args below meth c H locs cells slots ls C1 (qq_Ck (fun h => qq_wt h) C2))
theorem qq_tabIn {M : qq_M} {hp : qq_H} {bc bs pc : Nat} {loc : List (Nat × Value)} {rest : List Value} {P : Option Value → qq_H → Prop} {PX : String → qq_H → Prop} {dflt lo hi off : Int} {offs : Array Int} {len tgt : Nat} {x : Int32} (hdg : decode M.cc pc = .ok (.tableswitch dflt lo hi offs, len)) (h1 : ¬ x.toInt < lo) (h2 : ¬ hi < x.toInt) (ho : offs[(x.toInt - lo).toNat]? = some off) (ht : (pc : Int) + off = (tgt : Int)) (k : qq_Go M hp bc bs tgt loc rest P PX) : qq_Go M hp bc bs pc loc (.int x :: rest) P PX :=
  fun D base ad p l e R s m args below meth c H locs cells slots ls C1 C2 => lv_tableIn C1.1 C1.2.1 hdg h1 h2 ho ht (k D base ad p l e R s m args below meth c H locs cells slots ls C1 (qq_Ck (fun h => qq_wt h) C2))
theorem qq_lookup {M : qq_M} {hp : qq_H} {bc bs pc : Nat} {loc : List (Nat × Value)} {rest : List Value} {P : Option Value → qq_H → Prop} {PX : String → qq_H → Prop} {dflt off : Int} {ps : Array (Int × Int)} {len tgt : Nat} {x : Int32} (hdg : decode M.cc pc = .ok (.lookupswitch dflt ps, len)) (hps : (ps.toList.zip (ps.toList.drop 1)).all (fun (a, next) => a.1 < next.1) = true) (ho : Op.lookupswitch.offset ps.toList dflt x.toInt = off) (ht : (pc : Int) + off = (tgt : Int)) (k : qq_Go M hp bc bs tgt loc rest P PX) : qq_Go M hp bc bs pc loc (.int x :: rest) P PX :=
  fun D base ad p l e R s m args below meth c H locs cells slots ls C1 C2 => lv_lookup C1.1 C1.2.1 hdg hps ho ht (k D base ad p l e R s m args below meth c H locs cells slots ls C1 (qq_Ck (fun h => qq_wt h) C2))
/-! the world as the kit's list -/
def qq_ws (D : qq_D) (ad : Nat → Nat) (hp : qq_H) : va_W := (List.range (hp.1 - qq_E)).map (fun i => (ad (qq_E + i), qq_en D ad (hp.2 (qq_E + i))))
theorem qq_wsAt {D : qq_D} {ad : Nat → Nat} {hp : qq_H} {o : Nat} (h1 : qq_E ≤ o) (h2 : o < hp.1) : (qq_ws D ad hp)[o - qq_E]? = some (ad o, qq_en D ad (hp.2 o)) := by
  have e : qq_E + (o - qq_E) = o := by omega
  simp only [qq_ws, List.getElem?_map, List.getElem?_range (show o - qq_E < hp.1 - qq_E by omega), Option.map_some, e]
theorem qq_wsGet {D : qq_D} {ad : Nat → Nat} {hp : qq_H} {i : Nat} {q : Nat × va_E} (h : (qq_ws D ad hp)[i]? = some q) : qq_E + i < hp.1 ∧ q = (ad (qq_E + i), qq_en D ad (hp.2 (qq_E + i))) := by
  have hl := (List.getElem?_eq_some_iff.mp h).1
  simp only [qq_ws, List.length_map, List.length_range] at hl
  have h2 := qq_wsAt (D := D) (ad := ad) (hp := hp) (o := qq_E + i) (Nat.le_add_right _ _) (by omega)
  rw [Nat.add_sub_cancel_left] at h2
  exact ⟨by omega, Option.some.inj (h.symm.trans h2)⟩
theorem qq_RP {D : qq_D} {base : Nat} {ad : Nat → Nat} {hp : qq_H} {H : Heap} (h : qq_R D base ad hp H) : va_P D.1 vwCl (qq_ws D ad hp) H := fun i q hq => by
  obtain ⟨h1, rfl⟩ := qq_wsGet hq
  exact (h.2.1 _ (Nat.le_add_right _ _) h1).1
theorem qq_RD {D : qq_D} {base : Nat} {ad : Nat → Nat} {hp : qq_H} {H : Heap} (h : qq_R D base ad hp H) : va_D (qq_A base) (qq_ws D ad hp) := by
  refine ⟨fun i j p q hi hj hpq => ?_, fun i q hq => ?_⟩
  · obtain ⟨h1, rfl⟩ := qq_wsGet hi
    obtain ⟨h2, rfl⟩ := qq_wsGet hj
    have := h.2.2.1 _ _ (Nat.le_add_right _ _) h1 (Nat.le_add_right _ _) h2 hpq
    omega
  · obtain ⟨h1, rfl⟩ := qq_wsGet hq
    exact (h.2.1 _ (Nat.le_add_right _ _) h1).2
theorem qq_Rof {D : qq_D} {base : Nat} {ad : Nat → Nat} {hp : qq_H} {H : Heap} (hE : qq_E ≤ hp.1) (hP : va_P D.1 vwCl (qq_ws D ad hp) H) (hD : va_D (qq_A base) (qq_ws D ad hp)) (hw : ∀ k, k < hp.1 → qq_wc hp.1 (hp.2 k)) : qq_R D base ad hp H := by
  refine ⟨hE, fun k h1 h2 => ⟨hP _ _ (qq_wsAt h1 h2), hD.2 _ _ (qq_wsAt h1 h2)⟩, fun i j h1 h2 h3 h4 h5 => ?_, hw⟩
  have := hD.1 _ _ _ _ (qq_wsAt h1 h2) (qq_wsAt h3 h4) h5
  omega
theorem qq_wsSet {D : qq_D} {ad : Nat → Nat} {hp : qq_H} {o : Nat} {c : qq_C} (h1 : qq_E ≤ o) (h2 : o < hp.1) : (qq_ws D ad hp).set (o - qq_E) (ad o, qq_en D ad c) = qq_ws D ad (hp.1, va_up hp.2 o c) := by
  apply List.ext_getElem?
  intro i
  by_cases hi : qq_E + i < hp.1
  · have a1 := qq_wsAt (D := D) (ad := ad) (hp := hp) (o := qq_E + i) (Nat.le_add_right _ _) hi
    have a2 := qq_wsAt (D := D) (ad := ad) (hp := (hp.1, va_up hp.2 o c)) (o := qq_E + i) (Nat.le_add_right _ _) hi
    rw [Nat.add_sub_cancel_left] at a1 a2
    rw [a2]
    by_cases e : i = o - qq_E
    · subst e
      have e2 : qq_E + (o - qq_E) = o := by omega
      rw [List.getElem?_set_self (List.getElem?_eq_some_iff.mp a1).1]
      simp only [e2, va_up, if_true]
    · rw [List.getElem?_set_ne (Ne.symm e), a1]
      simp only [va_up]
      rw [if_neg (show ¬ qq_E + i = o by omega)]
  · have l1 : ((qq_ws D ad hp).set (o - qq_E) (ad o, qq_en D ad c)).length ≤ i := by simp only [List.length_set, qq_ws, List.length_map, List.length_range]; omega
    have l2 : (qq_ws D ad (hp.1, va_up hp.2 o c)).length ≤ i := by simp only [qq_ws, List.length_map, List.length_range]; omega
    rw [List.getElem?_eq_none l1, List.getElem?_eq_none l2]
theorem qq_ene {D : qq_D} {n : Nat} {ad ad' : Nat → Nat} (h : ∀ k, k < n → ad' k = ad k) {c : qq_C} (hc : qq_wc n c) : qq_en D ad' c = qq_en D ad c := by
  obtain ⟨t, a⟩ | ⟨ci, fs⟩ := c
  · obtain ⟨z, x⟩ := a
    rcases x with f | f | f | f | f
    · rfl
    · rfl
    · rfl
    · rfl
    · show Sum.inl _ = Sum.inl _
      have e : (fun j => (f j).map ad') = (fun j => (f j).map ad) := by
        funext j
        cases hf : f j with
        | none => rfl
        | some r => show some _ = some _; rw [h r (hc j r hf)]
      show Sum.inl (D.2 t, z, Sum.inr (Sum.inr (Sum.inr (Sum.inr (fun j => (f j).map ad'))))) = Sum.inl (D.2 t, z, Sum.inr (Sum.inr (Sum.inr (Sum.inr (fun j => (f j).map ad)))))
      rw [e]
  · show Sum.inr _ = Sum.inr _
    rw [qq_mke h hc]
theorem qq_wcm {n n' : Nat} (hn : n ≤ n') {c : qq_C} (hc : qq_wc n c) : qq_wc n' c := by
  obtain ⟨t, a⟩ | ⟨ci, fs⟩ := c
  · obtain ⟨z, x⟩ := a
    rcases x with f | f | f | f | f
    · exact trivial
    · exact trivial
    · exact trivial
    · exact trivial
    · exact fun j r hr => Nat.lt_of_lt_of_le (hc j r hr) hn
  · exact qq_wkm hc hn
theorem qq_wsPush {D : qq_D} {base : Nat} {ad : Nat → Nat} {hp : qq_H} {H : Heap} {c : qq_C} {q : Nat} {e : va_E} (h : qq_R D base ad hp H) (he : qq_en D (va_up ad hp.1 q) c = e) : (qq_ws D ad hp) ++ [(q, e)] = qq_ws D (va_up ad hp.1 q) (hp.1 + 1, va_up hp.2 hp.1 c) := by
  have hE := h.1
  have ha : ∀ k, k < hp.1 → va_up ad hp.1 q k = ad k := fun k hk => by simp only [va_up]; rw [if_neg (by omega)]
  have e1 : hp.1 + 1 - qq_E = (hp.1 - qq_E) + 1 := by omega
  have e3 : qq_E + (hp.1 - qq_E) = hp.1 := by omega
  subst he
  show _ = (List.range (hp.1 + 1 - qq_E)).map _
  rw [e1, List.range_succ, List.map_append]
  congr 1
  · refine List.map_congr_left fun i hi => ?_
    have hi2 : qq_E + i < hp.1 := by have := List.mem_range.mp hi; omega
    simp only [va_up]
    rw [if_neg (show ¬ qq_E + i = hp.1 by omega), if_neg (show ¬ qq_E + i = hp.1 by omega)]
    rw [← qq_ene ha (h.2.2.2 _ hi2)]
  · simp only [List.map_cons, List.map_nil, e3, va_up, if_true]
theorem qq_wcSet {hp : qq_H} {o : Nat} {c : qq_C} (hw : ∀ k, k < hp.1 → qq_wc hp.1 (hp.2 k)) (hc : qq_wc hp.1 c) : ∀ k, k < hp.1 → qq_wc hp.1 (va_up hp.2 o c k) := fun k hk => by
  simp only [va_up]
  by_cases e : k = o
  · rw [if_pos e]; exact hc
  · rw [if_neg e]; exact hw k hk
theorem qq_wcPush {hp : qq_H} {c : qq_C} (hw : ∀ k, k < hp.1 → qq_wc hp.1 (hp.2 k)) (hc : qq_wc (hp.1 + 1) c) : ∀ k, k < hp.1 + 1 → qq_wc (hp.1 + 1) (va_up hp.2 hp.1 c k) := fun k hk => by
  simp only [va_up]
  by_cases e : k = hp.1
  · rw [if_pos e]; exact hc
  · rw [if_neg e]; exact qq_wcm (Nat.le_succ _) (hw k (by omega))
/-- what was there before, seen from a changed heap of cells or map -/
theorem qq_xce {base : Nat} {ad ad' : Nat → Nat} {a n : Nat} (h : ∀ k, k < n → ad' k = ad k) {c : qq_C} (hc : qq_wc n c) {U : State} {H : Heap} (hx : qq_xc base ad a c U H) : qq_xc base ad' a c U H := by
  obtain ⟨t, z, x⟩ | ⟨ci, fs⟩ := c
  · rcases x with f | f | f | f | f
    · exact hx
    · exact hx
    · exact hx
    · exact hx
    · have e : (fun j => (f j).map ad') = (fun j => (f j).map ad) := by
        funext j
        cases hf : f j with
        | none => rfl
        | some r => show some _ = some _; rw [h r (hc j r hf)]
      show va_T (qq_ty t) a z (fun j => va_rf ((f j).map ad')) (qq_A base) U H
      have hx' : va_T (qq_ty t) a z (fun j => va_rf ((f j).map ad)) (qq_A base) U H := hx
      have e2 : (fun j => va_rf ((f j).map ad')) = (fun j => va_rf ((f j).map ad)) := by
        funext j
        exact congrArg va_rf (congrFun e j)
      rw [e2]
      exact hx'
  · intro r hr
    obtain ⟨h1, h2⟩ := hx r hr
    refine ⟨h1, fun k v hv => ?_⟩
    rw [qq_mve h (hc v (List.mem_of_getElem? hv))]
    exact h2 k v hv
theorem qq_XXe {base : Nat} {ad ad' : Nat → Nat} {hp hp' : qq_H} {U : State} {H : Heap} (hE : qq_E ≤ hp.1) (ha : ∀ k, k < hp.1 → ad' k = ad k) (hw : ∀ k, k < hp.1 → qq_wc hp.1 (hp.2 k)) (hh : ∀ k, k < qq_E → hp'.2 k = hp.2 k) (hs : ∀ q ∈ qq_sf, qq_wv qq_E q.2.2.2) (ht : ∀ q ∈ qq_st, q.2.2.2 < qq_E) (h : qq_XX base ad hp U H) : qq_XX base ad' hp' U H := by
  refine ⟨fun k hk => ?_, fun q hq => ?_, fun q hq => ?_, h.2.2.2⟩
  · have hk2 : k < hp.1 := Nat.lt_of_lt_of_le hk hE
    rw [hh k hk, ha k hk2]
    exact qq_xce ha (hw k hk2) (h.1 k hk)
  · rw [qq_mve (n := hp.1) ha (fun k hk => Nat.lt_of_lt_of_le (hs q hq k hk) hE)]
    exact h.2.1 q hq
  · rw [ha _ (Nat.lt_of_lt_of_le (ht q hq) hE)]
    exact h.2.2.1 q hq
theorem qq_sfw : ∀ q ∈ qq_sf, qq_wv qq_E q.2.2.2 := by
  have h : qq_sf.all (fun q => match q.2.2.2 with | .ref k => decide (k < qq_E) | _ => true) = true := by decide +kernel
  intro q hq k hk
  have := List.all_eq_true.mp h q hq
  rw [hk] at this
  exact of_decide_eq_true this
theorem qq_stw : ∀ q ∈ qq_st, q.2.2.2 < qq_E := by
  have h : qq_st.all (fun q => decide (q.2.2.2 < qq_E)) = true := by decide +kernel
  exact fun q hq => of_decide_eq_true (List.all_eq_true.mp h q hq)
theorem qq_xck {base : Nat} {ad : Nat → Nat} {a : Nat} {c : qq_C} {u U : State} {H H1 : Heap} (hvm : u.vm.Alike U.vm) (hq : ∀ a : Nat, a < H.size → ¬ qq_A base a → H1[a]? = H[a]?) (h : qq_xc base ad a c u H) : qq_xc base ad a c U H1 := by
  obtain ⟨t, x⟩ | ⟨ci, fs⟩ := c
  · exact va_T.kept (va_T.moved hvm h) hq
  · intro r hr
    obtain ⟨h1, h2⟩ := h r hr
    exact ⟨va_O.kept (va_O.moved hvm h1) hq, fun k v hv => va_OF.kept (va_OF.moved hvm (h2 k v hv)) hq⟩
theorem qq_ao {u U : State} (hvm : u.vm.Alike U.vm) (h : (Cond.arrayOver (.array .int)).before #[] u = true) : (Cond.arrayOver (.array .int)).before #[] U = true := by
  obtain ⟨comp, c, k, h1, h2, h3, h4, h5⟩ := arrayOverA_spec h
  obtain ⟨k', hk', he⟩ := hvm.2.2 _ _ h3
  have hi : (U.vm.classes.findIdx? fun (x : Class) => match x.kind with | .array component _ => component == comp | _ => false) = some c := by
    rw [hvm.findIdx?_eq _ (fun _ => rfl)]
    exact h2
  have hkind : k'.kind = .array comp (.array .int) := by rw [he]; exact h4
  have f1 : U.vm.findClass (FieldType.array .int).toString = some comp := by rw [hvm.findClass]; exact h1
  have f2 : U.vm.findClass ("[" ++ (FieldType.array .int).toString) = some c := by rw [hvm.findClass]; exact h5
  unfold Cond.before Cond.holds
  simp only [Cond.value]
  rw [f1, Option.bind_some]
  refine (congrArg (fun o : Option Nat => (o.bind (fun c => (U.vm.classes[c]?).map fun (k : Class) => match k.kind with | .array _ ty => decide (ty = FieldType.array .int) && decide (U.vm.findClass ("[" ++ (FieldType.array .int).toString) = some c) | _ => false) == some true)) hi).trans ?_
  simp [hk', hkind, f2]
theorem qq_xwf : ∀ w ∈ qq_xw, (match w with | .fieldLinkNest .. => true | .methodLinkNest .. => true | .castable .. => true | .declares .. => true | _ => false) = true := by
  have h : qq_xw.all (fun w => match w with | .fieldLinkNest .. => true | .methodLinkNest .. => true | .castable .. => true | .declares .. => true | _ => false) = true := by decide +kernel
  exact fun w hw => List.all_eq_true.mp h w hw
theorem qq_okW {s U : State} (hW : s.WarmedH U.vm) (h : qq_ok s) : qq_ok U := by
  refine ⟨fun q hq => va_Nc.moved hW.alike (h.1 q hq), fun w hw => ?_, qq_ao hW.alike h.2.2⟩
  have h1 := qq_xwf w hw
  have h2 := h.2.1 w hw
  cases w <;> first | (cases h1; done) | exact va_Nw.warmF hW h2 | exact va_Nw.warmM hW h2 | exact va_Nw.warmC hW h2 | exact va_Nw.warmD hW h2 | cases h1
theorem qq_okS {s U : State} (hv : s.vm = U.vm) (h : qq_ok s) : qq_ok U := by
  have ha : s.vm.Alike U.vm := by rw [hv]; exact Vm.Alike.refl _
  refine ⟨fun q hq => va_Nc.moved ha (h.1 q hq), fun w hw => ?_, qq_ao ha h.2.2⟩
  have h1 := qq_xwf w hw
  have h2 := h.2.1 w hw
  cases w <;> first | exact va_Nw.same rfl hv h2 | cases h1
/-- .. and from a callee's start -/
theorem qq_XXk {base : Nat} {ad : Nat → Nat} {hp : qq_H} {s U : State} {H H1 : Heap} (hA : s.vm.Alike U.vm) (hV : ∀ (own : String) (k : Nat) (tx : String) (a : Nat), vk_R own k tx a s → vk_R own k tx a U) (hN : qq_ok s → qq_ok U) (hs : H.size ≤ H1.size) (hq : ∀ a : Nat, a < H.size → ¬ qq_A base a → H1[a]? = H[a]?) (h : qq_XX base ad hp s H) : qq_XX base ad hp U H1 :=
  ⟨fun k hk => qq_xck hA hq (h.1 k hk), fun q hq2 => va_Z.kept (va_Z.moved hA (h.2.1 q hq2)) hq, fun q hq2 => hV _ _ _ _ (h.2.2.1 q hq2), vx_Zq.kept (vx_Zq.moved hA h.2.2.2.1) hq, vx_Zq.kept (vx_Zq.moved hA h.2.2.2.2.1) hq, Nat.le_trans h.2.2.2.2.2.1 hs, hN h.2.2.2.2.2.2⟩
theorem qq_base {base : Nat} {ad : Nat → Nat} {hp : qq_H} {s : State} (h : qq_XX base ad hp s s.heap) : ∀ q, s.heap.size ≤ q → qq_A base q := fun _ hq => Nat.le_trans h.2.2.2.2.2.1 hq
/-! stores to locals -/
theorem qq_pm (l : List (Nat × Value)) (f : Nat × Value → Nat × Value) (ks : List Nat) : lv_pick (l.map f) ks = (lv_pick l ks).map f := by
  simp only [lv_pick, List.map_filterMap]
  congr 1
  funext k
  rw [List.getElem?_map]
theorem qq_fm (ad : Nat → Nat) (l : List (Nat × Value)) (g : Nat × Value → Bool) (hg : ∀ q : Nat × Value, g (q.1, qq_mv ad q.2) = g q) : (l.map (fun q => (q.1, qq_mv ad q.2))).filter g = (l.filter g).map (fun q => (q.1, qq_mv ad q.2)) := by
  rw [List.filter_map]
  congr 1
  exact List.filter_congr fun q _ => hg q
theorem qq_sto {M : qq_M} {D : qq_D} {base : Nat} {ad : Nat → Nat} {hp : qq_H} {bc bs i : Nat} {loc loc' : List (Nat × Value)} {v : Value} {rest : List Value} {R : Room} {s : State} {H : Heap} {locs : List Loc} {cells slots : Nat} {ls ls' : Array Slot} {g : Nat × Value → Bool} (ks : List Nat)
    (hg : ∀ q : Nat × Value, g (q.1, qq_mv ad q.2) = g q) (hl : lv_pick ((i, v) :: loc.filter g) ks = loc') (C2 : qq_Cy M D base ad hp bc bs loc (v :: rest) R s H locs cells slots ls)
    (h : lv_has ls' M.mx ((i, qq_mv ad v) :: (loc.map (fun q => (q.1, qq_mv ad q.2))).filter g)) : qq_Cy M D base ad hp bc bs loc' rest R s H locs cells slots ls' := by
  refine ⟨lv_sub h ks ?_, fun q hq => ?_, qq_wt C2.2.2.1, C2.2.2.2⟩
  · rw [qq_fm ad loc g hg, ← hl, ← qq_pm]
    rfl
  · rw [← hl] at hq
    obtain ⟨k, -, hk⟩ := List.mem_filterMap.mp hq
    rcases List.mem_cons.mp (List.mem_of_getElem? hk) with rfl | h2
    · exact qq_wh C2.2.2.1
    · exact C2.2.1 q (List.mem_filter.mp h2).1
abbrev qq_g1 (i : Nat) : Nat × Value → Bool := fun q => !(q.1 == i) && !(q.1 + 1 == i && q.2.category == 2)
abbrev qq_g2 (i : Nat) : Nat × Value → Bool := fun q => !(q.1 == i) && (!(q.1 == i + 1) && !(q.1 + 1 == i && q.2.category == 2))
theorem qq_g1e (ad : Nat → Nat) (i : Nat) (q : Nat × Value) : qq_g1 i (q.1, qq_mv ad q.2) = qq_g1 i q := by simp only [qq_g1, qq_cat]
theorem qq_g2e (ad : Nat → Nat) (i : Nat) (q : Nat × Value) : qq_g2 i (q.1, qq_mv ad q.2) = qq_g2 i q := by simp only [qq_g2, qq_cat]
theorem qq_istore {M : qq_M} {hp : qq_H} {bc bs pc : Nat} {loc : List (Nat × Value)} {rest : List Value} {P : Option Value → qq_H → Prop} {PX : String → qq_H → Prop} {i : Nat} {x : Int32} {loc' : List (Nat × Value)} (hdg : decode M.cc pc = .ok (.istore i, 2))  (ks : List Nat) (hn : i < M.mx) (hl : lv_pick ((i, .int x) :: loc.filter (qq_g1 i)) ks = loc') (k : qq_Go M hp bc bs (pc + 2) loc' rest P PX) : qq_Go M hp bc bs pc loc (.int x :: rest) P PX :=
  fun D base ad p l e R s m args below meth c H locs cells slots ls C1 C2 => lv_istore C1.1 C1.2.1 hdg  C2.1 hn rfl (fun ls' hl' => k D base ad p l e R s m args below meth c H locs cells slots ls' C1 (qq_sto (g := qq_g1 i) ks (fun q => qq_g1e ad i q) hl C2 hl'))
theorem qq_lstore {M : qq_M} {hp : qq_H} {bc bs pc : Nat} {loc : List (Nat × Value)} {rest : List Value} {P : Option Value → qq_H → Prop} {PX : String → qq_H → Prop} {i : Nat} {x : Int64} {loc' : List (Nat × Value)} (hdg : decode M.cc pc = .ok (.lstore i, 2))  (ks : List Nat) (hn : i + 1 < M.mx) (hl : lv_pick ((i, .long x) :: loc.filter (qq_g2 i)) ks = loc') (k : qq_Go M hp bc bs (pc + 2) loc' rest P PX) : qq_Go M hp bc bs pc loc (.long x :: rest) P PX :=
  fun D base ad p l e R s m args below meth c H locs cells slots ls C1 C2 => lv_lstore C1.1 C1.2.1 hdg  C2.1 hn rfl (fun ls' hl' => k D base ad p l e R s m args below meth c H locs cells slots ls' C1 (qq_sto (g := qq_g2 i) ks (fun q => qq_g2e ad i q) hl C2 hl'))
theorem qq_dstore {M : qq_M} {hp : qq_H} {bc bs pc : Nat} {loc : List (Nat × Value)} {rest : List Value} {P : Option Value → qq_H → Prop} {PX : String → qq_H → Prop} {i : Nat} {x : UInt64} {loc' : List (Nat × Value)} (hdg : decode M.cc pc = .ok (.dstore i, 2))  (ks : List Nat) (hn : i + 1 < M.mx) (hl : lv_pick ((i, .double x) :: loc.filter (qq_g2 i)) ks = loc') (k : qq_Go M hp bc bs (pc + 2) loc' rest P PX) : qq_Go M hp bc bs pc loc (.double x :: rest) P PX :=
  fun D base ad p l e R s m args below meth c H locs cells slots ls C1 C2 => lv_dstore C1.1 C1.2.1 hdg  C2.1 hn rfl (fun ls' hl' => k D base ad p l e R s m args below meth c H locs cells slots ls' C1 (qq_sto (g := qq_g2 i) ks (fun q => qq_g2e ad i q) hl C2 hl'))
theorem qq_astore {M : qq_M} {hp : qq_H} {bc bs pc : Nat} {loc : List (Nat × Value)} {rest : List Value} {P : Option Value → qq_H → Prop} {PX : String → qq_H → Prop} {i : Nat} {x : Nat} {loc' : List (Nat × Value)} (hdg : decode M.cc pc = .ok (.astore i, 2))  (ks : List Nat) (hn : i < M.mx) (hl : lv_pick ((i, .ref x) :: loc.filter (qq_g1 i)) ks = loc') (k : qq_Go M hp bc bs (pc + 2) loc' rest P PX) : qq_Go M hp bc bs pc loc (.ref x :: rest) P PX :=
  fun D base ad p l e R s m args below meth c H locs cells slots ls C1 C2 => lv_astore C1.1 C1.2.1 hdg  C2.1 hn rfl (fun ls' hl' => k D base ad p l e R s m args below meth c H locs cells slots ls' C1 (qq_sto (g := qq_g1 i) ks (fun q => qq_g1e ad i q) hl C2 hl'))
theorem qq_astoreN {M : qq_M} {hp : qq_H} {bc bs pc : Nat} {loc : List (Nat × Value)} {rest : List Value} {P : Option Value → qq_H → Prop} {PX : String → qq_H → Prop} {i : Nat} {loc' : List (Nat × Value)} (hdg : decode M.cc pc = .ok (.astore i, 2))  (ks : List Nat) (hn : i < M.mx) (hl : lv_pick ((i, .null) :: loc.filter (qq_g1 i)) ks = loc') (k : qq_Go M hp bc bs (pc + 2) loc' rest P PX) : qq_Go M hp bc bs pc loc (.null :: rest) P PX :=
  fun D base ad p l e R s m args below meth c H locs cells slots ls C1 C2 => lv_astoreN C1.1 C1.2.1 hdg  C2.1 hn rfl (fun ls' hl' => k D base ad p l e R s m args below meth c H locs cells slots ls' C1 (qq_sto (g := qq_g1 i) ks (fun q => qq_g1e ad i q) hl C2 hl'))
theorem qq_istore_n {M : qq_M} {hp : qq_H} {bc bs pc : Nat} {loc : List (Nat × Value)} {rest : List Value} {P : Option Value → qq_H → Prop} {PX : String → qq_H → Prop} {kk : Fin 4} {i : Nat} {x : Int32} {loc' : List (Nat × Value)} (hdg : decode M.cc pc = .ok (.istore_n kk, 1)) (hi : (kk : Nat) = i) (ks : List Nat) (hn : i < M.mx) (hl : lv_pick ((i, .int x) :: loc.filter (qq_g1 i)) ks = loc') (k : qq_Go M hp bc bs (pc + 1) loc' rest P PX) : qq_Go M hp bc bs pc loc (.int x :: rest) P PX :=
  fun D base ad p l e R s m args below meth c H locs cells slots ls C1 C2 => lv_istore_n C1.1 C1.2.1 hdg hi C2.1 hn rfl (fun ls' hl' => k D base ad p l e R s m args below meth c H locs cells slots ls' C1 (qq_sto (g := qq_g1 i) ks (fun q => qq_g1e ad i q) hl C2 hl'))
theorem qq_lstore_n {M : qq_M} {hp : qq_H} {bc bs pc : Nat} {loc : List (Nat × Value)} {rest : List Value} {P : Option Value → qq_H → Prop} {PX : String → qq_H → Prop} {kk : Fin 4} {i : Nat} {x : Int64} {loc' : List (Nat × Value)} (hdg : decode M.cc pc = .ok (.lstore_n kk, 1)) (hi : (kk : Nat) = i) (ks : List Nat) (hn : i + 1 < M.mx) (hl : lv_pick ((i, .long x) :: loc.filter (qq_g2 i)) ks = loc') (k : qq_Go M hp bc bs (pc + 1) loc' rest P PX) : qq_Go M hp bc bs pc loc (.long x :: rest) P PX :=
  fun D base ad p l e R s m args below meth c H locs cells slots ls C1 C2 => lv_lstore_n C1.1 C1.2.1 hdg hi C2.1 hn rfl (fun ls' hl' => k D base ad p l e R s m args below meth c H locs cells slots ls' C1 (qq_sto (g := qq_g2 i) ks (fun q => qq_g2e ad i q) hl C2 hl'))
theorem qq_dstore_n {M : qq_M} {hp : qq_H} {bc bs pc : Nat} {loc : List (Nat × Value)} {rest : List Value} {P : Option Value → qq_H → Prop} {PX : String → qq_H → Prop} {kk : Fin 4} {i : Nat} {x : UInt64} {loc' : List (Nat × Value)} (hdg : decode M.cc pc = .ok (.dstore_n kk, 1)) (hi : (kk : Nat) = i) (ks : List Nat) (hn : i + 1 < M.mx) (hl : lv_pick ((i, .double x) :: loc.filter (qq_g2 i)) ks = loc') (k : qq_Go M hp bc bs (pc + 1) loc' rest P PX) : qq_Go M hp bc bs pc loc (.double x :: rest) P PX :=
  fun D base ad p l e R s m args below meth c H locs cells slots ls C1 C2 => lv_dstore_n C1.1 C1.2.1 hdg hi C2.1 hn rfl (fun ls' hl' => k D base ad p l e R s m args below meth c H locs cells slots ls' C1 (qq_sto (g := qq_g2 i) ks (fun q => qq_g2e ad i q) hl C2 hl'))
theorem qq_astore_n {M : qq_M} {hp : qq_H} {bc bs pc : Nat} {loc : List (Nat × Value)} {rest : List Value} {P : Option Value → qq_H → Prop} {PX : String → qq_H → Prop} {kk : Fin 4} {i : Nat} {x : Nat} {loc' : List (Nat × Value)} (hdg : decode M.cc pc = .ok (.astore_n kk, 1)) (hi : (kk : Nat) = i) (ks : List Nat) (hn : i < M.mx) (hl : lv_pick ((i, .ref x) :: loc.filter (qq_g1 i)) ks = loc') (k : qq_Go M hp bc bs (pc + 1) loc' rest P PX) : qq_Go M hp bc bs pc loc (.ref x :: rest) P PX :=
  fun D base ad p l e R s m args below meth c H locs cells slots ls C1 C2 => lv_astore_n C1.1 C1.2.1 hdg hi C2.1 hn rfl (fun ls' hl' => k D base ad p l e R s m args below meth c H locs cells slots ls' C1 (qq_sto (g := qq_g1 i) ks (fun q => qq_g1e ad i q) hl C2 hl'))
theorem qq_astore_nN {M : qq_M} {hp : qq_H} {bc bs pc : Nat} {loc : List (Nat × Value)} {rest : List Value} {P : Option Value → qq_H → Prop} {PX : String → qq_H → Prop} {kk : Fin 4} {i : Nat} {loc' : List (Nat × Value)} (hdg : decode M.cc pc = .ok (.astore_n kk, 1)) (hi : (kk : Nat) = i) (ks : List Nat) (hn : i < M.mx) (hl : lv_pick ((i, .null) :: loc.filter (qq_g1 i)) ks = loc') (k : qq_Go M hp bc bs (pc + 1) loc' rest P PX) : qq_Go M hp bc bs pc loc (.null :: rest) P PX :=
  fun D base ad p l e R s m args below meth c H locs cells slots ls C1 C2 => lv_astore_nN C1.1 C1.2.1 hdg hi C2.1 hn rfl (fun ls' hl' => k D base ad p l e R s m args below meth c H locs cells slots ls' C1 (qq_sto (g := qq_g1 i) ks (fun q => qq_g1e ad i q) hl C2 hl'))
theorem qq_iinc {M : qq_M} {hp : qq_H} {bc bs pc : Nat} {loc : List (Nat × Value)} {rest : List Value} {P : Option Value → qq_H → Prop} {PX : String → qq_H → Prop} {i : Nat} {n : Int} {x v : Int32} {loc' : List (Nat × Value)} (hdg : decode M.cc pc = .ok (.iinc i n, 3)) (j : Nat) (hj : loc[j]? = some (i, .int x)) (hv : x + Int32.ofInt n = v) (ks : List Nat) (hn : i < M.mx) (hl : lv_pick ((i, .int v) :: loc.filter (qq_g1 i)) ks = loc') (k : qq_Go M hp bc bs (pc + 3) loc' rest P PX) : qq_Go M hp bc bs pc loc rest P PX :=
  fun D base ad p l e R s m args below meth c H locs cells slots ls C1 C2 => lv_iinc (k := j) C1.1 C1.2.1 hdg C2.1 (by rw [List.getElem?_map, hj]; rfl) hv hn rfl (fun ls' hl' => k D base ad p l e R s m args below meth c H locs cells slots ls' C1 (qq_sto (g := qq_g1 i) (v := .int v) ks (fun q => qq_g1e ad i q) hl (qq_Ck (fun h => qq_wi h) C2) hl'))
theorem qq_get {M : qq_M} {hp : qq_H} {bc bs pc : Nat} {loc : List (Nat × Value)} {rest : List Value} {P : Option Value → qq_H → Prop} {PX : String → qq_H → Prop} {o ci idx N : Nat} {fs : List Value} {v : Value} {C : String} {T : u_T} (hdg : decode M.cc pc = .ok (.getfield idx, 3)) (ho : hp.2 o = .inr (ci, fs)) (hc : vwCl[ci]? = some (C, T, N)) (k : Nat) (hk : k < N) (hv : fs[k]? = some v) (hin : ∀ w ∈ u_ws C T N, w ∈ lw_gd) (hw : Cond.fieldLink M.y.cls idx (T k).1 (T k).2.1 (T k).2.2.1 ∈ lw_gd) (kk : qq_Go M hp bc bs (pc + 3) loc (v :: rest) P PX) : qq_Go M hp bc bs pc loc (.ref o :: rest) P PX := by
  intro D base ad p l e R s m args below meth c H locs cells slots ls C1 C2
  have ho2 : o < hp.1 := qq_wh C2.2.2.1 o rfl
  have hwc := C2.2.2.2.1.2.2.2 o ho2
  rw [ho] at hwc
  have hvw : qq_wv hp.1 v := hwc v (List.mem_of_getElem? hv)
  have K := kk D base ad p l e R s m args below meth c H locs cells slots ls C1 (qq_Ck (fun h => qq_wu hvw (qq_wt h)) C2)
  by_cases hE : o < qq_E
  · have hx := C1.2.2.2.2.2.2.2.2.2.2.2.2.1 o hE
    rw [ho] at hx
    exact vk_getf C1.1 C1.2.1 ((hx _ hc).2 k v hv) C2.2.2.2.2.1 C1.2.2.2.2.1 (C1.2.2.2.2.2.2.2.1 _ hw) (fun _ h9 => h9) hdg K
  · refine va_get C1.1 C1.2.1 C1.2.2.2.2.2.2.2.1 hin C1.2.2.2.2.1 C1.2.2.2.2.2.2.2.2.2.2.2.1 (qq_RP C2.2.2.2.1) (o - qq_E) (fs := fs.map (qq_mv ad)) ?_ hc k hk (C1.2.2.2.2.2.2.2.1 _ hw) (fun _ h9 => h9) (v := qq_mv ad v) (by rw [List.getElem?_map, hv]; rfl) hdg K
    rw [qq_wsAt (by omega) ho2, ho]
    rfl
/-- a cell has changed -/
theorem qq_chg {M : qq_M} {hp : qq_H} {bc bs pc : Nat} {loc : List (Nat × Value)} {stk stk1 : List Value} {P : Option Value → qq_H → Prop} {PX : String → qq_H → Prop} {p : Program} {l : Launch} {e : Env} {R : Room} {s : State} {m : MethodId} {args : Array Value} {below : List Frame} {meth : Method} {c : Code} {H : Heap} {locs : List Loc} {cells slots : Nat} {ls : Array Slot} {D : qq_D} {base : Nat} {ad : Nat → Nat} {o : Nat} {cl : qq_C} {H1 : Heap} {locs1 : List Loc} (C1 : qq_Cx M D base ad hp p l R s m args meth c) (C2 : qq_Cy M D base ad hp bc bs loc stk1 R s H locs cells slots ls) (hE : qq_E ≤ o) (ho : o < hp.1) (hc : qq_wc hp.1 cl) (hk : qq_wk hp.1 stk)
    (hP : va_P D.1 vwCl ((qq_ws D ad hp).set (o - qq_E) (ad o, qq_en D ad cl)) H1) (hD : va_D (qq_A base) ((qq_ws D ad hp).set (o - qq_E) (ad o, qq_en D ad cl))) (hS : va_S (qq_A base) s.heap H1 locs1) (kk : qq_Go M (hp.1, va_up hp.2 o cl) bc bs pc loc stk P PX) :
    W p l e R s m args below meth c H1 locs1 cells slots (vx_MQ below (qq_Q D base ad hp P) (qq_QX D base ad hp PX) args s R.cells R.slots (qq_A base)) (F0 m pc ls (stk.map (qq_mv ad))) := by
  rw [qq_wsSet hE ho] at hP hD
  have hwn : ∀ j, j < hp.1 → qq_wc hp.1 (va_up hp.2 o cl j) := qq_wcSet C2.2.2.2.1.2.2.2 hc
  have hR := qq_Rof (hp := (hp.1, va_up hp.2 o cl)) C2.2.2.2.1.1 hP hD hwn
  have hXe : ∀ k1, k1 < qq_E → va_up hp.2 o cl k1 = hp.2 k1 := fun k1 h1 => by simp only [va_up]; rw [if_neg (by omega)]
  have hX := qq_XXe (ad' := ad) (hp' := (hp.1, va_up hp.2 o cl)) C2.2.2.2.1.1 (fun _ _ => rfl) C2.2.2.2.1.2.2.2 hXe qq_sfw qq_stw C1.2.2.2.2.2.2.2.2.2.2.2.2
  refine qq_Wm (fun t => qq_Qm (hp := hp) (hp' := (hp.1, va_up hp.2 o cl)) (Nat.le_refl _) hXe (fun _ _ => rfl) t) ?_
  exact kk D base ad p l e R s m args below meth c H1 locs1 cells slots ls ⟨C1.1, C1.2.1, C1.2.2.1, C1.2.2.2.1, C1.2.2.2.2.1, C1.2.2.2.2.2.1, C1.2.2.2.2.2.2.1, C1.2.2.2.2.2.2.2.1, C1.2.2.2.2.2.2.2.2.1, C1.2.2.2.2.2.2.2.2.2.1, C1.2.2.2.2.2.2.2.2.2.2.1, C1.2.2.2.2.2.2.2.2.2.2.2.1, hX⟩ ⟨C2.1, C2.2.1, hk, hR, hS, C2.2.2.2.2.2⟩
/-- a cell has come -/
theorem qq_alc {M : qq_M} {hp : qq_H} {bc bs pc : Nat} {loc : List (Nat × Value)} {stk stk1 : List Value} {P : Option Value → qq_H → Prop} {PX : String → qq_H → Prop} {p : Program} {l : Launch} {e : Env} {R : Room} {s : State} {m : MethodId} {args : Array Value} {below : List Frame} {meth : Method} {c : Code} {H : Heap} {locs : List Loc} {cells slots : Nat} {ls : Array Slot} {D : qq_D} {base : Nat} {ad : Nat → Nat} {cl : qq_C} {q mc ms : Nat} {ev : va_E} {H1 : Heap} {locs1 : List Loc} (C1 : qq_Cx M D base ad hp p l R s m args meth c) (C2 : qq_Cy M D base ad hp (bc + mc) (bs + ms) loc stk1 R s H locs cells slots ls) (hc : qq_wc (hp.1 + 1) cl) (hk : qq_wk hp.1 stk) (hev : qq_en D (va_up ad hp.1 q) cl = ev)
    (hP : va_P D.1 vwCl ((qq_ws D ad hp) ++ [(q, ev)]) H1) (hD : va_D (qq_A base) ((qq_ws D ad hp) ++ [(q, ev)])) (hS : va_S (qq_A base) s.heap H1 locs1) (kk : qq_Go M (hp.1 + 1, va_up hp.2 hp.1 cl) bc bs pc loc (.ref hp.1 :: stk) P PX) :
    W p l e R s m args below meth c H1 locs1 (cells + mc) (slots + ms) (vx_MQ below (qq_Q D base ad hp P) (qq_QX D base ad hp PX) args s R.cells R.slots (qq_A base)) (F0 m pc ls (.ref q :: stk.map (qq_mv ad))) := by
  rw [qq_wsPush C2.2.2.2.1 hev] at hP hD
  have ha : ∀ k, k < hp.1 → va_up ad hp.1 q k = ad k := fun k hk => by simp only [va_up]; rw [if_neg (by omega)]
  have hE := C2.2.2.2.1.1
  have hwn : ∀ j, j < hp.1 + 1 → qq_wc (hp.1 + 1) (va_up hp.2 hp.1 cl j) := qq_wcPush C2.2.2.2.1.2.2.2 hc
  have hR := qq_Rof (hp := (hp.1 + 1, va_up hp.2 hp.1 cl)) (Nat.le_succ_of_le hE) hP hD hwn
  have hXe : ∀ k1, k1 < qq_E → va_up hp.2 hp.1 cl k1 = hp.2 k1 := fun k1 h1 => by simp only [va_up]; rw [if_neg (by omega)]
  have hX := qq_XXe (ad' := va_up ad hp.1 q) (hp' := (hp.1 + 1, va_up hp.2 hp.1 cl)) hE ha C2.2.2.2.1.2.2.2 hXe qq_sfw qq_stw C1.2.2.2.2.2.2.2.2.2.2.2.2
  refine qq_Wm (fun t => qq_Qm (hp := hp) (hp' := (hp.1 + 1, va_up hp.2 hp.1 cl)) (Nat.le_succ _) hXe ha t) ?_
  have e0 : Value.ref q :: stk.map (qq_mv ad) = (Value.ref hp.1 :: stk).map (qq_mv (va_up ad hp.1 q)) := by
    rw [List.map_cons, qq_mke ha hk]
    simp only [qq_mv, va_up, if_true]
  rw [e0]
  have hl := C2.1
  rw [← qq_mle ha C2.2.1] at hl
  have b1 : cells + mc + bc ≤ R.cells := by have := C2.2.2.2.2.2.1; omega
  have b2 : slots + ms + bs ≤ R.slots := by have := C2.2.2.2.2.2.2; omega
  exact kk D base (va_up ad hp.1 q) p l e R s m args below meth c H1 locs1 (cells + mc) (slots + ms) ls ⟨C1.1, C1.2.1, C1.2.2.1, C1.2.2.2.1, C1.2.2.2.2.1, C1.2.2.2.2.2.1, C1.2.2.2.2.2.2.1, C1.2.2.2.2.2.2.2.1, C1.2.2.2.2.2.2.2.2.1, C1.2.2.2.2.2.2.2.2.2.1, C1.2.2.2.2.2.2.2.2.2.2.1, C1.2.2.2.2.2.2.2.2.2.2.2.1, hX⟩ ⟨hl, qq_wlm C2.2.1 (Nat.le_succ _), qq_wu (fun k h => by cases h; exact Nat.lt_succ_self _) (qq_wkm hk (Nat.le_succ _)), hR, hS, b1, b2⟩
theorem qq_put {M : qq_M} {hp : qq_H} {bc bs pc : Nat} {loc : List (Nat × Value)} {rest : List Value} {P : Option Value → qq_H → Prop} {PX : String → qq_H → Prop} {o ci idx N : Nat} {fs : List Value} {v : Value} {C : String} {T : u_T} {ty : FieldType} (hdg : decode M.cc pc = .ok (.putfield idx, 3)) (ho : hp.2 o = .inr (ci, fs)) (hE : qq_E ≤ o) (hc : vwCl[ci]? = some (C, T, N)) (k : Nat) (hk : k < N) (hl : k < fs.length) (hin : ∀ w ∈ u_ws C T N, w ∈ lw_gd) (hw : Cond.fieldLink M.y.cls idx (T k).1 (T k).2.1 (T k).2.2.1 ∈ lw_gd) (ty0 : Nat → FieldType) (hty : ∀ k, k < N → parseFieldDescriptor (T k).2.2.1 = some (ty0 k)) (hnm : ∀ a, a < N → ∀ b, b < N → a ≠ b → (T a).2.1 ≠ (T b).2.1) (hfin : (T k).2.2.2 = false) (hd : parseFieldDescriptor (T k).2.2.1 = some ty) (hn : ∀ ad, narrow ty (qq_mv ad v) = qq_mv ad v) (hfit : ∀ ad, fits ty (qq_mv ad v) = true) (kk : qq_Go M (hp.1, va_up hp.2 o (.inr (ci, fs.set k v))) bc bs (pc + 3) loc rest P PX) : qq_Go M hp bc bs pc loc (v :: .ref o :: rest) P PX := by
  intro D base ad p l e R s m args below meth c H locs cells slots ls C1 C2
  have ho2 : o < hp.1 := qq_wh (qq_wt C2.2.2.1) o rfl
  have hvw : qq_wv hp.1 v := qq_wh C2.2.2.1
  have hwc := C2.2.2.2.1.2.2.2 o ho2
  rw [ho] at hwc
  have he : (qq_ws D ad hp)[o - qq_E]? = some (ad o, .inr (ci, fs.map (qq_mv ad))) := by
    rw [qq_wsAt hE ho2, ho]
    rfl
  refine va_put C1.1 C1.2.1 C1.2.2.2.2.2.2.2.1 hin ty0 hty hnm C1.2.2.2.2.1 C1.2.2.2.2.2.2.2.2.2.2.2.1 (qq_RP C2.2.2.2.1) (qq_RD C2.2.2.2.1) C2.2.2.2.2.1 (o - qq_E) he hc k hk (C1.2.2.2.2.2.2.2.1 _ hw) (fun _ h9 => h9) hfin hd (hn ad) (hfit ad) (by rw [List.length_map]; exact hl) hdg (fun H1 locs1 hP hD hS => ?_)
  have e1 : qq_en D ad (.inr (ci, fs.set k v)) = .inr (ci, (fs.map (qq_mv ad)).set k (qq_mv ad v)) := by
    show Sum.inr (ci, (fs.set k v).map (qq_mv ad)) = _
    rw [List.map_set]
  rw [← e1] at hP hD
  exact qq_chg C1 C2 (cl := .inr (ci, fs.set k v)) hE ho2 (fun w hq => (List.mem_or_eq_of_mem_set hq).elim (hwc w) (fun e => by rw [e]; exact hvw)) (qq_wt (qq_wt C2.2.2.1)) hP hD hS kk
theorem qq_putF {M : qq_M} {hp : qq_H} {bc bs pc : Nat} {loc : List (Nat × Value)} {rest : List Value} {P : Option Value → qq_H → Prop} {PX : String → qq_H → Prop} {o ci idx N : Nat} {fs : List Value} {v : Value} {C : String} {T : u_T} {ty : FieldType} (hdg : decode M.cc pc = .ok (.putfield idx, 3)) (ho : hp.2 o = .inr (ci, fs)) (hE : qq_E ≤ o) (hc : vwCl[ci]? = some (C, T, N)) (k : Nat) (hk : k < N) (hl : k < fs.length) (hin : ∀ w ∈ u_ws C T N, w ∈ lw_gd) (hw : Cond.fieldLink M.y.cls idx (T k).1 (T k).2.1 (T k).2.2.1 ∈ lw_gd) (ty0 : Nat → FieldType) (hty : ∀ k, k < N → parseFieldDescriptor (T k).2.2.1 = some (ty0 k)) (hnm : ∀ a, a < N → ∀ b, b < N → a ≠ b → (T a).2.1 ≠ (T b).2.1) (hfin : (T k).2.2.2 = true) (hin2 : M.y.name = "<init>") (hdecl : (T k).1 = M.y.cls) (hd : parseFieldDescriptor (T k).2.2.1 = some ty) (hn : ∀ ad, narrow ty (qq_mv ad v) = qq_mv ad v) (hfit : ∀ ad, fits ty (qq_mv ad v) = true) (kk : qq_Go M (hp.1, va_up hp.2 o (.inr (ci, fs.set k v))) bc bs (pc + 3) loc rest P PX) : qq_Go M hp bc bs pc loc (v :: .ref o :: rest) P PX := by
  intro D base ad p l e R s m args below meth c H locs cells slots ls C1 C2
  have ho2 : o < hp.1 := qq_wh (qq_wt C2.2.2.1) o rfl
  have hvw : qq_wv hp.1 v := qq_wh C2.2.2.1
  have hwc := C2.2.2.2.1.2.2.2 o ho2
  rw [ho] at hwc
  have he : (qq_ws D ad hp)[o - qq_E]? = some (ad o, .inr (ci, fs.map (qq_mv ad))) := by
    rw [qq_wsAt hE ho2, ho]
    rfl
  refine va_putF C1.1 C1.2.1 C1.2.2.2.2.2.2.2.1 hin ty0 hty hnm C1.2.2.2.2.1 C1.2.2.2.2.2.2.2.2.2.2.2.1 (qq_RP C2.2.2.2.1) (qq_RD C2.2.2.2.1) C2.2.2.2.2.1 (o - qq_E) he hc k hk (C1.2.2.2.2.2.2.2.1 _ hw) (fun _ h9 => h9) hfin (C1.2.2.2.2.2.2.1.trans hin2) hdecl hd (hn ad) (hfit ad) (by rw [List.length_map]; exact hl) hdg (fun H1 locs1 hP hD hS => ?_)
  have e1 : qq_en D ad (.inr (ci, fs.set k v)) = .inr (ci, (fs.map (qq_mv ad)).set k (qq_mv ad v)) := by
    show Sum.inr (ci, (fs.set k v).map (qq_mv ad)) = _
    rw [List.map_set]
  rw [← e1] at hP hD
  exact qq_chg C1 C2 (cl := .inr (ci, fs.set k v)) hE ho2 (fun w hq => (List.mem_or_eq_of_mem_set hq).elim (hwc w) (fun e => by rw [e]; exact hvw)) (qq_wt (qq_wt C2.2.2.1)) hP hD hS kk
theorem qq_iald {M : qq_M} {hp : qq_H} {bc bs pc : Nat} {loc : List (Nat × Value)} {rest : List Value} {P : Option Value → qq_H → Prop} {PX : String → qq_H → Prop} {o n : Nat} {f : Nat → Int32} {i : Int32} (hdg : decode M.cc pc = .ok (.iaload, 1)) (ho : hp.2 o = .inl (0, n, .inl f)) (hin : vp_in i n) (kk : qq_Go M hp bc bs (pc + 1) loc (.int (f i.toNatClampNeg) :: rest) P PX) : qq_Go M hp bc bs pc loc (.int i :: .ref o :: rest) P PX := by
  intro D base ad p l e R s m args below meth c H locs cells slots ls C1 C2
  have ho2 : o < hp.1 := qq_wh (qq_wt C2.2.2.1) o rfl
  have K := kk D base ad p l e R s m args below meth c H locs cells slots ls C1 (qq_Ck (fun h => qq_wi (qq_wt (qq_wt h))) C2)
  by_cases hE : o < qq_E
  · have hx := C1.2.2.2.2.2.2.2.2.2.2.2.2.1 o hE
    rw [ho] at hx
    exact va_ti C1.1 C1.2.1 hx C2.2.2.2.2.1 hin rfl hdg K
  · refine va_iald C1.1 C1.2.1 C1.2.2.2.2.2.2.2.2.2.2.2.1 (qq_RP C2.2.2.2.1) (o - qq_E) 0 (f := f) (n := n) (cA := D.2 0) ?_ rfl hin hdg K
    rw [qq_wsAt (by omega) ho2, ho]
    rfl
theorem qq_lald {M : qq_M} {hp : qq_H} {bc bs pc : Nat} {loc : List (Nat × Value)} {rest : List Value} {P : Option Value → qq_H → Prop} {PX : String → qq_H → Prop} {o n : Nat} {f : Nat → Int64} {i : Int32} (hdg : decode M.cc pc = .ok (.laload, 1)) (ho : hp.2 o = .inl (1, n, .inr (.inl f))) (hin : vp_in i n) (kk : qq_Go M hp bc bs (pc + 1) loc (.long (f i.toNatClampNeg) :: rest) P PX) : qq_Go M hp bc bs pc loc (.int i :: .ref o :: rest) P PX := by
  intro D base ad p l e R s m args below meth c H locs cells slots ls C1 C2
  have ho2 : o < hp.1 := qq_wh (qq_wt C2.2.2.1) o rfl
  have K := kk D base ad p l e R s m args below meth c H locs cells slots ls C1 (qq_Ck (fun h => qq_wj (qq_wt (qq_wt h))) C2)
  by_cases hE : o < qq_E
  · have hx := C1.2.2.2.2.2.2.2.2.2.2.2.2.1 o hE
    rw [ho] at hx
    exact va_tl C1.1 C1.2.1 hx C2.2.2.2.2.1 hin rfl hdg K
  · refine va_lald C1.1 C1.2.1 C1.2.2.2.2.2.2.2.2.2.2.2.1 (qq_RP C2.2.2.2.1) (o - qq_E) 1 (f := f) (n := n) (cA := D.2 1) ?_ rfl hin hdg K
    rw [qq_wsAt (by omega) ho2, ho]
    rfl
theorem qq_zald {M : qq_M} {hp : qq_H} {bc bs pc : Nat} {loc : List (Nat × Value)} {rest : List Value} {P : Option Value → qq_H → Prop} {PX : String → qq_H → Prop} {o n : Nat} {f : Nat → Int32} {i : Int32} (hdg : decode M.cc pc = .ok (.baload, 1)) (ho : hp.2 o = .inl (2, n, .inl f)) (hin : vp_in i n) (kk : qq_Go M hp bc bs (pc + 1) loc (.int (f i.toNatClampNeg) :: rest) P PX) : qq_Go M hp bc bs pc loc (.int i :: .ref o :: rest) P PX := by
  intro D base ad p l e R s m args below meth c H locs cells slots ls C1 C2
  have ho2 : o < hp.1 := qq_wh (qq_wt C2.2.2.1) o rfl
  have K := kk D base ad p l e R s m args below meth c H locs cells slots ls C1 (qq_Ck (fun h => qq_wi (qq_wt (qq_wt h))) C2)
  by_cases hE : o < qq_E
  · have hx := C1.2.2.2.2.2.2.2.2.2.2.2.2.1 o hE
    rw [ho] at hx
    exact va_tz C1.1 C1.2.1 hx C2.2.2.2.2.1 hin rfl hdg K
  · refine va_zald C1.1 C1.2.1 C1.2.2.2.2.2.2.2.2.2.2.2.1 (qq_RP C2.2.2.2.1) (o - qq_E) 2 (f := f) (n := n) (cA := D.2 2) ?_ rfl hin hdg K
    rw [qq_wsAt (by omega) ho2, ho]
    rfl
theorem qq_bald {M : qq_M} {hp : qq_H} {bc bs pc : Nat} {loc : List (Nat × Value)} {rest : List Value} {P : Option Value → qq_H → Prop} {PX : String → qq_H → Prop} {o n : Nat} {f : Nat → Int32} {i : Int32} (hdg : decode M.cc pc = .ok (.baload, 1)) (ho : hp.2 o = .inl (3, n, .inl f)) (hin : vp_in i n) (kk : qq_Go M hp bc bs (pc + 1) loc (.int (f i.toNatClampNeg) :: rest) P PX) : qq_Go M hp bc bs pc loc (.int i :: .ref o :: rest) P PX := by
  intro D base ad p l e R s m args below meth c H locs cells slots ls C1 C2
  have ho2 : o < hp.1 := qq_wh (qq_wt C2.2.2.1) o rfl
  have K := kk D base ad p l e R s m args below meth c H locs cells slots ls C1 (qq_Ck (fun h => qq_wi (qq_wt (qq_wt h))) C2)
  by_cases hE : o < qq_E
  · have hx := C1.2.2.2.2.2.2.2.2.2.2.2.2.1 o hE
    rw [ho] at hx
    exact va_tb C1.1 C1.2.1 hx C2.2.2.2.2.1 hin rfl hdg K
  · refine va_bald C1.1 C1.2.1 C1.2.2.2.2.2.2.2.2.2.2.2.1 (qq_RP C2.2.2.2.1) (o - qq_E) 3 (f := f) (n := n) (cA := D.2 3) ?_ rfl hin hdg K
    rw [qq_wsAt (by omega) ho2, ho]
    rfl
theorem qq_iast {M : qq_M} {hp : qq_H} {bc bs pc : Nat} {loc : List (Nat × Value)} {rest : List Value} {P : Option Value → qq_H → Prop} {PX : String → qq_H → Prop} {o n : Nat} {f : Nat → Int32} {i : Int32} {x : Int32} (hdg : decode M.cc pc = .ok (.iastore, 1)) (ho : hp.2 o = .inl (0, n, .inl (f))) (hE : qq_E ≤ o) (hin : vp_in i n) (kk : qq_Go M (hp.1, va_up hp.2 o (.inl (0, n, .inl (upd f i.toNatClampNeg x)))) bc bs (pc + 1) loc rest P PX) : qq_Go M hp bc bs pc loc (.int x :: .int i :: .ref o :: rest) P PX := by
  intro D base ad p l e R s m args below meth c H locs cells slots ls C1 C2
  have ho2 : o < hp.1 := qq_wh (qq_wt (qq_wt C2.2.2.1)) o rfl
  have he : (qq_ws D ad hp)[o - qq_E]? = some (ad o, .inl (D.2 0, n, .inl (f))) := by
    rw [qq_wsAt hE ho2, ho]
    rfl
  refine va_iast C1.1 C1.2.1 C1.2.2.2.2.2.2.2.2.2.2.2.1 (qq_RP C2.2.2.2.1) (qq_RD C2.2.2.2.1) C2.2.2.2.2.1 (o - qq_E) 0 he rfl hin hdg (fun H1 locs1 hP hD hS => ?_)
  exact qq_chg C1 C2 (cl := .inl (0, n, .inl (upd f i.toNatClampNeg x))) hE ho2 trivial (qq_wt (qq_wt (qq_wt C2.2.2.1))) hP hD hS kk
theorem qq_last {M : qq_M} {hp : qq_H} {bc bs pc : Nat} {loc : List (Nat × Value)} {rest : List Value} {P : Option Value → qq_H → Prop} {PX : String → qq_H → Prop} {o n : Nat} {f : Nat → Int64} {i : Int32} {x : Int64} (hdg : decode M.cc pc = .ok (.lastore, 1)) (ho : hp.2 o = .inl (1, n, .inr (.inl (f)))) (hE : qq_E ≤ o) (hin : vp_in i n) (kk : qq_Go M (hp.1, va_up hp.2 o (.inl (1, n, .inr (.inl (vp_updL f i.toNatClampNeg x))))) bc bs (pc + 1) loc rest P PX) : qq_Go M hp bc bs pc loc (.long x :: .int i :: .ref o :: rest) P PX := by
  intro D base ad p l e R s m args below meth c H locs cells slots ls C1 C2
  have ho2 : o < hp.1 := qq_wh (qq_wt (qq_wt C2.2.2.1)) o rfl
  have he : (qq_ws D ad hp)[o - qq_E]? = some (ad o, .inl (D.2 1, n, .inr (.inl (f)))) := by
    rw [qq_wsAt hE ho2, ho]
    rfl
  refine va_last C1.1 C1.2.1 C1.2.2.2.2.2.2.2.2.2.2.2.1 (qq_RP C2.2.2.2.1) (qq_RD C2.2.2.2.1) C2.2.2.2.2.1 (o - qq_E) 1 he rfl hin hdg (fun H1 locs1 hP hD hS => ?_)
  exact qq_chg C1 C2 (cl := .inl (1, n, .inr (.inl (vp_updL f i.toNatClampNeg x)))) hE ho2 trivial (qq_wt (qq_wt (qq_wt C2.2.2.1))) hP hD hS kk
theorem qq_zast {M : qq_M} {hp : qq_H} {bc bs pc : Nat} {loc : List (Nat × Value)} {rest : List Value} {P : Option Value → qq_H → Prop} {PX : String → qq_H → Prop} {o n : Nat} {f : Nat → Int32} {i : Int32} {x : Int32} (hdg : decode M.cc pc = .ok (.bastore, 1)) (ho : hp.2 o = .inl (2, n, .inl (f))) (hE : qq_E ≤ o) (hin : vp_in i n) (kk : qq_Go M (hp.1, va_up hp.2 o (.inl (2, n, .inl (upd f i.toNatClampNeg (vp_nar .boolean x))))) bc bs (pc + 1) loc rest P PX) : qq_Go M hp bc bs pc loc (.int x :: .int i :: .ref o :: rest) P PX := by
  intro D base ad p l e R s m args below meth c H locs cells slots ls C1 C2
  have ho2 : o < hp.1 := qq_wh (qq_wt (qq_wt C2.2.2.1)) o rfl
  have he : (qq_ws D ad hp)[o - qq_E]? = some (ad o, .inl (D.2 2, n, .inl (f))) := by
    rw [qq_wsAt hE ho2, ho]
    rfl
  refine va_zast C1.1 C1.2.1 C1.2.2.2.2.2.2.2.2.2.2.2.1 (qq_RP C2.2.2.2.1) (qq_RD C2.2.2.2.1) C2.2.2.2.2.1 (o - qq_E) 2 he rfl hin hdg (fun H1 locs1 hP hD hS => ?_)
  exact qq_chg C1 C2 (cl := .inl (2, n, .inl (upd f i.toNatClampNeg (vp_nar .boolean x)))) hE ho2 trivial (qq_wt (qq_wt (qq_wt C2.2.2.1))) hP hD hS kk
theorem qq_bast {M : qq_M} {hp : qq_H} {bc bs pc : Nat} {loc : List (Nat × Value)} {rest : List Value} {P : Option Value → qq_H → Prop} {PX : String → qq_H → Prop} {o n : Nat} {f : Nat → Int32} {i : Int32} {x : Int32} (hdg : decode M.cc pc = .ok (.bastore, 1)) (ho : hp.2 o = .inl (3, n, .inl (f))) (hE : qq_E ≤ o) (hin : vp_in i n) (kk : qq_Go M (hp.1, va_up hp.2 o (.inl (3, n, .inl (upd f i.toNatClampNeg (vp_nar .byte x))))) bc bs (pc + 1) loc rest P PX) : qq_Go M hp bc bs pc loc (.int x :: .int i :: .ref o :: rest) P PX := by
  intro D base ad p l e R s m args below meth c H locs cells slots ls C1 C2
  have ho2 : o < hp.1 := qq_wh (qq_wt (qq_wt C2.2.2.1)) o rfl
  have he : (qq_ws D ad hp)[o - qq_E]? = some (ad o, .inl (D.2 3, n, .inl (f))) := by
    rw [qq_wsAt hE ho2, ho]
    rfl
  refine va_bast C1.1 C1.2.1 C1.2.2.2.2.2.2.2.2.2.2.2.1 (qq_RP C2.2.2.2.1) (qq_RD C2.2.2.2.1) C2.2.2.2.2.1 (o - qq_E) 3 he rfl hin hdg (fun H1 locs1 hP hD hS => ?_)
  exact qq_chg C1 C2 (cl := .inl (3, n, .inl (upd f i.toNatClampNeg (vp_nar .byte x)))) hE ho2 trivial (qq_wt (qq_wt (qq_wt C2.2.2.1))) hP hD hS kk
theorem qq_alen {M : qq_M} {hp : qq_H} {bc bs pc : Nat} {loc : List (Nat × Value)} {rest : List Value} {P : Option Value → qq_H → Prop} {PX : String → qq_H → Prop} {o t : Nat} {x : vp_A} {v : Int32} (hdg : decode M.cc pc = .ok (.arraylength, 1)) (ho : hp.2 o = .inl (t, x)) (ht : t < 5 ∨ o < qq_E) (hv : Int32.ofNat x.1 = v) (kk : qq_Go M hp bc bs (pc + 1) loc (.int v :: rest) P PX) : qq_Go M hp bc bs pc loc (.ref o :: rest) P PX := by
  intro D base ad p l e R s m args below meth c H locs cells slots ls C1 C2
  have ho2 : o < hp.1 := qq_wh C2.2.2.1 o rfl
  have K := kk D base ad p l e R s m args below meth c H locs cells slots ls C1 (qq_Ck (fun h => qq_wi (qq_wt h)) C2)
  by_cases hE : o < qq_E
  · have hx := C1.2.2.2.2.2.2.2.2.2.2.2.2.1 o hE
    rw [ho] at hx
    exact va_tlen C1.1 C1.2.1 hx C2.2.2.2.2.1 hv hdg K
  · have ht5 : t < 5 := ht.resolve_right hE
    refine va_alen C1.1 C1.2.1 C1.2.2.2.2.2.2.2.2.2.2.2.1 (qq_RP C2.2.2.2.1) (o - qq_E) t (x := qq_ma ad x) (cA := D.2 t) (ty := qq_ty t) ?_ ?_ hv hdg K
    · rw [qq_wsAt (by omega) ho2, ho]
      rfl
    · rcases (by omega : t = 0 ∨ t = 1 ∨ t = 2 ∨ t = 3 ∨ t = 4) with rfl | rfl | rfl | rfl | rfl <;> rfl
theorem qq_newI {M : qq_M} {hp : qq_H} {bc bs pc : Nat} {loc : List (Nat × Value)} {rest : List Value} {P : Option Value → qq_H → Prop} {PX : String → qq_H → Prop} {n : Int32} {N' ms : Nat} (hdg : decode M.cc pc = .ok (.newarray .int, 2)) (hn : ¬ n < 0) (hN : n.toNatClampNeg = N') (hb9 : N' ≤ 60000) (hms : N' ≤ ms) (kk : qq_Go M (hp.1 + 1, va_up hp.2 hp.1 (.inl (0, N', .inl (fun _ => 0)))) bc bs (pc + 2) loc (.ref hp.1 :: rest) P PX) (harr : Cond.arrayClass (newarray.typeOf .int) ∈ lw_gd) : qq_Go M hp (bc + 1) (bs + ms) pc loc (.int n :: rest) P PX := by
  intro D base ad p l e R s m args below meth c H locs cells slots ls C1 C2
  have b1 : cells + 1 ≤ R.cells := by have := C2.2.2.2.2.2.1; omega
  have b2 : slots + N' ≤ R.slots := by have := C2.2.2.2.2.2.2; omega
  refine va_newa (atype := .int) C1.1 C1.2.1 (C1.2.2.2.2.2.2.2.1 _ harr) (ty := qq_ty 0) rfl C1.2.2.2.2.2.2.2.2.2.2.2.1 (qq_RP C2.2.2.2.1) (qq_RD C2.2.2.2.1) C2.2.2.2.2.1 (qq_base C1.2.2.2.2.2.2.2.2.2.2.2.2) (a0 := (N', .inl (fun _ => 0))) (fun cA => rfl) hn hN (Nat.le_trans (Nat.mul_le_mul_right _ hb9) (Nat.le_of_ble_eq_true rfl)) b1 b2 hdg (fun q cA H1 hK1 hP hD hS => ?_)
  have e1 : cA = D.2 0 := Option.some.inj ((hK1.2 5 _ rfl).2.symm.trans ((C1.2.2.2.2.2.2.2.2.2.2.2.1).2 0 _ rfl).2)
  subst e1
  refine W.widen (k := cells + 1) (n := slots + ms) (Nat.le_refl _) (by omega) ?_
  exact qq_alc C1 C2 (cl := .inl (0, N', .inl (fun _ => 0))) trivial (qq_wt C2.2.2.1) rfl hP hD hS kk
theorem qq_newJ {M : qq_M} {hp : qq_H} {bc bs pc : Nat} {loc : List (Nat × Value)} {rest : List Value} {P : Option Value → qq_H → Prop} {PX : String → qq_H → Prop} {n : Int32} {N' ms : Nat} (hdg : decode M.cc pc = .ok (.newarray .long, 2)) (hn : ¬ n < 0) (hN : n.toNatClampNeg = N') (hb9 : N' ≤ 60000) (hms : N' ≤ ms) (kk : qq_Go M (hp.1 + 1, va_up hp.2 hp.1 (.inl (1, N', .inr (.inl (fun _ => 0))))) bc bs (pc + 2) loc (.ref hp.1 :: rest) P PX) (harr : Cond.arrayClass (newarray.typeOf .long) ∈ lw_gd) : qq_Go M hp (bc + 1) (bs + ms) pc loc (.int n :: rest) P PX := by
  intro D base ad p l e R s m args below meth c H locs cells slots ls C1 C2
  have b1 : cells + 1 ≤ R.cells := by have := C2.2.2.2.2.2.1; omega
  have b2 : slots + N' ≤ R.slots := by have := C2.2.2.2.2.2.2; omega
  refine va_newa (atype := .long) C1.1 C1.2.1 (C1.2.2.2.2.2.2.2.1 _ harr) (ty := qq_ty 1) rfl C1.2.2.2.2.2.2.2.2.2.2.2.1 (qq_RP C2.2.2.2.1) (qq_RD C2.2.2.2.1) C2.2.2.2.2.1 (qq_base C1.2.2.2.2.2.2.2.2.2.2.2.2) (a0 := (N', .inr (.inl (fun _ => 0)))) (fun cA => rfl) hn hN (Nat.le_trans (Nat.mul_le_mul_right _ hb9) (Nat.le_of_ble_eq_true rfl)) b1 b2 hdg (fun q cA H1 hK1 hP hD hS => ?_)
  have e1 : cA = D.2 1 := Option.some.inj ((hK1.2 5 _ rfl).2.symm.trans ((C1.2.2.2.2.2.2.2.2.2.2.2.1).2 1 _ rfl).2)
  subst e1
  refine W.widen (k := cells + 1) (n := slots + ms) (Nat.le_refl _) (by omega) ?_
  exact qq_alc C1 C2 (cl := .inl (1, N', .inr (.inl (fun _ => 0)))) trivial (qq_wt C2.2.2.1) rfl hP hD hS kk
theorem qq_newZ {M : qq_M} {hp : qq_H} {bc bs pc : Nat} {loc : List (Nat × Value)} {rest : List Value} {P : Option Value → qq_H → Prop} {PX : String → qq_H → Prop} {n : Int32} {N' ms : Nat} (hdg : decode M.cc pc = .ok (.newarray .boolean, 2)) (hn : ¬ n < 0) (hN : n.toNatClampNeg = N') (hb9 : N' ≤ 60000) (hms : N' ≤ ms) (kk : qq_Go M (hp.1 + 1, va_up hp.2 hp.1 (.inl (2, N', .inl (fun _ => 0)))) bc bs (pc + 2) loc (.ref hp.1 :: rest) P PX) (harr : Cond.arrayClass (newarray.typeOf .boolean) ∈ lw_gd) : qq_Go M hp (bc + 1) (bs + ms) pc loc (.int n :: rest) P PX := by
  intro D base ad p l e R s m args below meth c H locs cells slots ls C1 C2
  have b1 : cells + 1 ≤ R.cells := by have := C2.2.2.2.2.2.1; omega
  have b2 : slots + N' ≤ R.slots := by have := C2.2.2.2.2.2.2; omega
  refine va_newa (atype := .boolean) C1.1 C1.2.1 (C1.2.2.2.2.2.2.2.1 _ harr) (ty := qq_ty 2) rfl C1.2.2.2.2.2.2.2.2.2.2.2.1 (qq_RP C2.2.2.2.1) (qq_RD C2.2.2.2.1) C2.2.2.2.2.1 (qq_base C1.2.2.2.2.2.2.2.2.2.2.2.2) (a0 := (N', .inl (fun _ => 0))) (fun cA => rfl) hn hN (Nat.le_trans (Nat.mul_le_mul_right _ hb9) (Nat.le_of_ble_eq_true rfl)) b1 b2 hdg (fun q cA H1 hK1 hP hD hS => ?_)
  have e1 : cA = D.2 2 := Option.some.inj ((hK1.2 5 _ rfl).2.symm.trans ((C1.2.2.2.2.2.2.2.2.2.2.2.1).2 2 _ rfl).2)
  subst e1
  refine W.widen (k := cells + 1) (n := slots + ms) (Nat.le_refl _) (by omega) ?_
  exact qq_alc C1 C2 (cl := .inl (2, N', .inl (fun _ => 0))) trivial (qq_wt C2.2.2.1) rfl hP hD hS kk
theorem qq_newB {M : qq_M} {hp : qq_H} {bc bs pc : Nat} {loc : List (Nat × Value)} {rest : List Value} {P : Option Value → qq_H → Prop} {PX : String → qq_H → Prop} {n : Int32} {N' ms : Nat} (hdg : decode M.cc pc = .ok (.newarray .byte, 2)) (hn : ¬ n < 0) (hN : n.toNatClampNeg = N') (hb9 : N' ≤ 60000) (hms : N' ≤ ms) (kk : qq_Go M (hp.1 + 1, va_up hp.2 hp.1 (.inl (3, N', .inl (fun _ => 0)))) bc bs (pc + 2) loc (.ref hp.1 :: rest) P PX) (harr : Cond.arrayClass (newarray.typeOf .byte) ∈ lw_gd) : qq_Go M hp (bc + 1) (bs + ms) pc loc (.int n :: rest) P PX := by
  intro D base ad p l e R s m args below meth c H locs cells slots ls C1 C2
  have b1 : cells + 1 ≤ R.cells := by have := C2.2.2.2.2.2.1; omega
  have b2 : slots + N' ≤ R.slots := by have := C2.2.2.2.2.2.2; omega
  refine va_newa (atype := .byte) C1.1 C1.2.1 (C1.2.2.2.2.2.2.2.1 _ harr) (ty := qq_ty 3) rfl C1.2.2.2.2.2.2.2.2.2.2.2.1 (qq_RP C2.2.2.2.1) (qq_RD C2.2.2.2.1) C2.2.2.2.2.1 (qq_base C1.2.2.2.2.2.2.2.2.2.2.2.2) (a0 := (N', .inl (fun _ => 0))) (fun cA => rfl) hn hN (Nat.le_trans (Nat.mul_le_mul_right _ hb9) (Nat.le_of_ble_eq_true rfl)) b1 b2 hdg (fun q cA H1 hK1 hP hD hS => ?_)
  have e1 : cA = D.2 3 := Option.some.inj ((hK1.2 5 _ rfl).2.symm.trans ((C1.2.2.2.2.2.2.2.2.2.2.2.1).2 3 _ rfl).2)
  subst e1
  refine W.widen (k := cells + 1) (n := slots + ms) (Nat.le_refl _) (by omega) ?_
  exact qq_alc C1 C2 (cl := .inl (3, N', .inl (fun _ => 0))) trivial (qq_wt C2.2.2.1) rfl hP hD hS kk
theorem qq_new {M : qq_M} {hp : qq_H} {bc bs pc : Nat} {loc : List (Nat × Value)} {rest : List Value} {P : Option Value → qq_H → Prop} {PX : String → qq_H → Prop} {ci idx N ms : Nat} {C : String} {T : u_T} {fs : List Value} (hdg : decode M.cc pc = .ok (.new idx, 3)) (hc : vwCl[ci]? = some (C, T, N)) (hin : ∀ w ∈ u_ws C T N, w ∈ lw_gd) (ty0 : Nat → FieldType) (hty : ∀ k, k < N → parseFieldDescriptor (T k).2.2.1 = some (ty0 k)) (hw1 : Cond.classLink M.y.cls idx C ∈ lw_gd) (hw2 : Cond.instantiable C N ∈ lw_gd) (hw3 : Cond.initialized C ∈ lw_gd) (hfs : ∀ j, j < N → defaultValue (ty0 j) = vp_V fs j) (hfw : ∀ v ∈ fs, ∀ k, v ≠ .ref k) (hms : N ≤ ms) (kk : qq_Go M (hp.1 + 1, va_up hp.2 hp.1 (.inr (ci, fs))) bc bs (pc + 3) loc (.ref hp.1 :: rest) P PX) : qq_Go M hp (bc + 1) (bs + ms) pc loc rest P PX := by
  intro D base ad p l e R s m args below meth c H locs cells slots ls C1 C2
  have b1 : cells + 1 ≤ R.cells := by have := C2.2.2.2.2.2.1; omega
  have b2 : slots + N ≤ R.slots := by have := C2.2.2.2.2.2.2; omega
  refine va_new C1.1 C1.2.1 C1.2.2.2.2.2.2.2.1 hin ty0 hty C1.2.2.2.2.1 (C1.2.2.2.2.2.2.2.1 _ hw1) (C1.2.2.2.2.2.2.2.1 _ hw2) (C1.2.2.2.2.2.2.2.1 _ hw3) C1.2.2.2.2.2.2.2.2.2.2.2.1 (qq_RP C2.2.2.2.1) (qq_RD C2.2.2.2.1) C2.2.2.2.2.1 (qq_base C1.2.2.2.2.2.2.2.2.2.2.2.2) hc hfs b1 b2 hdg (fun q H1 hP hD hS => ?_)
  refine W.widen (k := cells + 1) (n := slots + ms) (Nat.le_refl _) (by omega) ?_
  refine qq_alc C1 C2 (cl := .inr (ci, fs)) (fun v hv k hk => absurd hk (hfw v hv k)) C2.2.2.1 ?_ hP hD hS kk
  show Sum.inr (ci, fs.map _) = _
  have e2 : fs.map (qq_mv (va_up ad hp.1 q)) = fs := by
    conv => rhs; rw [← List.map_id fs]
    exact List.map_congr_left fun v hv => by
      cases v <;> first | rfl | exact absurd rfl (hfw _ hv _)
  rw [e2]
theorem qq_objI {M : qq_M} {hp : qq_H} {bc bs pc : Nat} {loc : List (Nat × Value)} {rest : List Value} {P : Option Value → qq_H → Prop} {PX : String → qq_H → Prop} {o idx : Nat} (hdg : decode M.cc pc = .ok (.invokespecial idx, 3)) (hw1 : Cond.methodLink M.y.cls idx objectInit ∈ lw_gd) (hw2 : Cond.instanceMethod objectInit ∈ lw_gd) (hw3 : Cond.code objectInit ⟨#[0xb1]⟩ 1 none ∈ lw_gd) (hst : (rest.map fun v => v.category).sum ≤ 8) (kk : qq_Go M hp bc bs (pc + 3) loc rest P PX) : qq_Go M hp bc bs pc loc (.ref o :: rest) P PX := by
  intro D base ad p l e R s m args below meth c H locs cells slots ls C1 C2
  have hr := C1.2.2.2.2.2.2.2.2.2.1
  have hst2 : ((rest.map (qq_mv ad)).map fun v => v.category).sum ≤ 8 := by
    rw [List.map_map, show ((fun v : Value => v.category) ∘ qq_mv ad) = (fun v => v.category) from funext (qq_cat ad)]
    exact hst
  refine W.objInit C1.1 C1.2.1 C1.2.2.2.2.1 (C1.2.2.2.2.2.2.2.1 _ hw1) (C1.2.2.2.2.2.2.2.1 _ hw2) (C1.2.2.2.2.2.2.2.1 _ hw3) (g := F0 m pc ls ((Value.ref o :: rest).map (qq_mv ad))) rfl (by rw [C1.2.2.2.1]; exact C2.1.1) (a := ad o) (rest := rest.map (qq_mv ad)) rfl hdg (by omega) (by show 2 * 0 + _ + 12 ≤ _; omega) ?_
  exact kk D base ad p l e R s m args below meth c H locs cells slots ls C1 (qq_Ck (fun h => qq_wt h) C2)
/-! rows of rows, and of texts -/
theorem qq_aald {M : qq_M} {hp : qq_H} {bc bs pc : Nat} {loc : List (Nat × Value)} {rest : List Value} {P : Option Value → qq_H → Prop} {PX : String → qq_H → Prop} {o n t : Nat} {f : Nat → Option Nat} {i : Int32} (hdg : decode M.cc pc = .ok (.aaload, 1)) (ho : hp.2 o = .inl (t, n, .inr (.inr (.inr (.inr f))))) (ht : (t = 4 ∧ qq_E ≤ o) ∨ (t = 5 ∧ o < qq_E)) (hin : vp_in i n) (kk : qq_Go M hp bc bs (pc + 1) loc (va_rf (f i.toNatClampNeg) :: rest) P PX) : qq_Go M hp bc bs pc loc (.int i :: .ref o :: rest) P PX := by
  intro D base ad p l e R s m args below meth c H locs cells slots ls C1 C2
  have ho2 : o < hp.1 := qq_wh (qq_wt C2.2.2.1) o rfl
  have hwc := C2.2.2.2.1.2.2.2 o ho2
  rw [ho] at hwc
  have hvw : qq_wv hp.1 (va_rf (f i.toNatClampNeg)) := by
    intro k hk
    cases hf : f i.toNatClampNeg with
    | none => rw [hf] at hk; cases hk
    | some r => rw [hf] at hk; cases hk; exact hwc _ _ hf
  have K := kk D base ad p l e R s m args below meth c H locs cells slots ls C1 (qq_Ck (fun h => qq_wu hvw (qq_wt (qq_wt h))) C2)
  have e0 : qq_mv ad (va_rf (f i.toNatClampNeg)) = va_rf ((f i.toNatClampNeg).map ad) := by
    cases f i.toNatClampNeg <;> rfl
  rcases ht with ⟨rfl, hE⟩ | ⟨rfl, hE⟩
  · have hc : H[ad o]? = some (vp_cell (D.2 4) (n, .inr (.inr (.inr (.inr (fun j => (f j).map ad)))))) := by
      have h1 := (C2.2.2.2.1.2.1 o hE ho2).1
      rw [ho] at h1
      exact h1
    have hlt : i.toNatClampNeg < n := Nat.not_le.mp fun q => hin (Or.inr q)
    refine W.aald (ty := .array .int) (v := va_rf ((f i.toNatClampNeg).map ad)) C1.1 C1.2.1 hc (((C1.2.2.2.2.2.2.2.2.2.2.2.1).2 4 _ rfl).1 n (fun j => va_rf ((f j).map ad))) rfl (fun q => by cases q) (by show ¬ (i < 0 ∨ (arrV _ _ _).slots.size ≤ _); rw [arrV_size]; exact hin) (by show (arrV _ _ _).slots[_]? = _; rw [arrV_read _ _ hlt]) rfl rfl hdg ?_
    rw [← e0]
    exact K
  · have hx := C1.2.2.2.2.2.2.2.2.2.2.2.2.1 o hE
    rw [ho] at hx
    refine vb_tq C1.1 C1.2.1 hx C2.2.2.2.2.1 hin (v := va_rf ((f i.toNatClampNeg).map ad)) rfl hdg ?_
    rw [← e0]
    exact K
/-! the ends -/
section QE
variable {M : qq_M} {hp : qq_H} {bc bs pc : Nat} {loc : List (Nat × Value)} {P : Option Value → qq_H → Prop} {PX : String → qq_H → Prop}
theorem qq_end {D : qq_D} {base : Nat} {ad : Nat → Nat} {s t : State} {H : Heap} {locs : List Loc} {args : Array Value} {v : Option Value} (hv : P v hp) (hR : qq_R D base ad hp H) (hS : va_S (qq_A base) s.heap H locs) (hw : ∀ w, v = some w → qq_wv hp.1 w) (ht : t.heap = H) : qq_Q D base ad hp P args s (.returned (v.map (qq_mv ad))) t :=
  ⟨⟨v, hp, ad, rfl, hv, Nat.le_refl _, fun _ _ => rfl, fun _ _ => rfl, by rw [ht]; exact hR, hw⟩, hS.F ht⟩
theorem qq_iret {v : Int32} {ty : FieldType} (hdg : decode M.cc pc = .ok (.ireturn, 1)) (hr : M.rt = some ty) (hn : narrow ty (.int v) = .int v) (hP : P (some (.int v)) hp) : qq_Go M hp bc bs pc loc [.int v] P PX := by
  intro D base ad p l e R s m args below meth c H locs cells slots ls C1 C2
  refine vx_ret (W.widen (k := R.cells) (n := R.slots) (by have := C2.2.2.2.2.2.1; omega) (by have := C2.2.2.2.2.2.2; omega) ?_)
  exact W.zret C1.1 C1.2.1 (C1.2.2.1.trans hr) hn (fun t ht hW => qq_end (v := some (.int v)) hP C2.2.2.2.1 C2.2.2.2.2.1 (fun w hw k hk => by cases hw; cases hk) ht) (fun q hq => C2.2.2.2.2.1.2.2 q hq) hdg C1.2.2.2.2.2.1
theorem qq_lret {v : Int64} (hdg : decode M.cc pc = .ok (.lreturn, 1)) (hr : M.rt = some .long) (hP : P (some (.long v)) hp) : qq_Go M hp bc bs pc loc [.long v] P PX := by
  intro D base ad p l e R s m args below meth c H locs cells slots ls C1 C2
  refine vx_ret (W.widen (k := R.cells) (n := R.slots) (by have := C2.2.2.2.2.2.1; omega) (by have := C2.2.2.2.2.2.2; omega) ?_)
  exact W.lret C1.1 C1.2.1 (C1.2.2.1.trans hr) (fun t ht hW => qq_end (v := some (.long v)) hP C2.2.2.2.1 C2.2.2.2.2.1 (fun w hw k hk => by cases hw; cases hk) ht) (fun q hq => C2.2.2.2.2.1.2.2 q hq) hdg C1.2.2.2.2.2.1
theorem qq_dret {v : UInt64} (hdg : decode M.cc pc = .ok (.dreturn, 1)) (hr : M.rt = some .double) (hP : P (some (.double v)) hp) : qq_Go M hp bc bs pc loc [.double v] P PX := by
  intro D base ad p l e R s m args below meth c H locs cells slots ls C1 C2
  refine vx_ret (W.widen (k := R.cells) (n := R.slots) (by have := C2.2.2.2.2.2.1; omega) (by have := C2.2.2.2.2.2.2; omega) ?_)
  exact W.dret C1.1 C1.2.1 (C1.2.2.1.trans hr) (fun t ht hW => qq_end (v := some (.double v)) hP C2.2.2.2.1 C2.2.2.2.2.1 (fun w hw k hk => by cases hw; cases hk) ht) (fun q hq => C2.2.2.2.2.1.2.2 q hq) hdg C1.2.2.2.2.2.1
theorem qq_vret (hdg : decode M.cc pc = .ok (.return_, 1)) (hr : M.rt = none) (hP : P none hp) : qq_Go M hp bc bs pc loc [] P PX := by
  intro D base ad p l e R s m args below meth c H locs cells slots ls C1 C2
  refine vx_ret (W.widen (k := R.cells) (n := R.slots) (by have := C2.2.2.2.2.2.1; omega) (by have := C2.2.2.2.2.2.2; omega) ?_)
  exact W.vret C1.1 C1.2.1 (C1.2.2.1.trans hr) (fun t ht hW => qq_end (v := none) hP C2.2.2.2.1 C2.2.2.2.2.1 (fun w hw => by cases hw) ht) (fun q hq => C2.2.2.2.2.1.2.2 q hq) hdg C1.2.2.2.2.2.1
theorem qq_aret {v : Value} {rt : FieldType} (hdg : decode M.cc pc = .ok (.areturn, 1)) (hr : M.rt = some rt) (hrt : (∃ n, rt = .object n) ∨ ∃ t, rt = .array t) (hv : v = .null ∨ ∃ a, v = .ref a) (hP : P (some v) hp) : qq_Go M hp bc bs pc loc [v] P PX := by
  intro D base ad p l e R s m args below meth c H locs cells slots ls C1 C2
  refine vx_ret (W.widen (k := R.cells) (n := R.slots) (by have := C2.2.2.2.2.2.1; omega) (by have := C2.2.2.2.2.2.2; omega) ?_)
  refine W.aret (v := qq_mv ad v) C1.1 C1.2.1 (C1.2.2.1.trans hr) hrt ?_ (fun t ht hW => qq_end (v := some v) hP C2.2.2.2.1 C2.2.2.2.2.1 (fun w hw => by cases hw; exact qq_wh C2.2.2.1) ht) (fun q hq => C2.2.2.2.2.1.2.2 q hq) hdg C1.2.2.2.2.2.1
  rcases hv with rfl | ⟨a, rfl⟩
  · exact Or.inl rfl
  · exact Or.inr ⟨_, rfl⟩
end QE
/-! contracts -/
def qq_cw (M : qq_M) : Cond := match M.hh with
  | [] => .code M.y M.cc M.mx M.rt
  | _ :: _ => .codeWith M.y M.cc M.mx M.rt M.hh
def qq_rm (M : qq_M) (mc ms : Nat) : Room := { frames := 12 * M.lv, cells := mc, slots := ms, locals := 120 * M.lv }
def qq_Pre (D : qq_D) (base : Nat) (ad : Nat → Nat) (hp : qq_H) : State → Prop := fun U => qq_R D base ad hp U.heap ∧ va_K D.1 vwCl (qq_tys D.2) U ∧ qq_XX base ad hp U U.heap
/-- method M at these arguments over these cells: it returns so that P, or throws so that PX; it makes at most mc cells of ms slots -/
def qq_Mt (M : qq_M) (as : List Value) (hp : qq_H) (mc ms : Nat) (P : Option Value → qq_H → Prop) (PX : String → qq_H → Prop) : Prop :=
  ∀ (l : Launch) (D : qq_D) (base : Nat) (ad : Nat → Nat), l.stackTraces = false → qq_wk hp.1 as →
    vx_Met l M.y (qq_cw M :: lw_gd) (qq_rm M mc ms) (va_Pc (as.map (qq_mv ad)) (qq_Pre D base ad hp)) (qq_Q D base ad hp P) (qq_QX D base ad hp PX) mc ms (qq_A base)
theorem qq_lvm (ad : Nat → Nat) : ∀ (as : List Value) (i : Nat), lv_args i (as.map (qq_mv ad)) = (lv_args i as).map (fun q => (q.1, qq_mv ad q.2))
  | [], _ => rfl
  | v :: vs, i => by
    show (i, qq_mv ad v) :: lv_args (if (qq_mv ad v).category = 2 then i + 2 else i + 1) (vs.map (qq_mv ad)) = _
    rw [qq_cat, qq_lvm ad vs]
    rfl
theorem qq_sll (ad : Nat → Nat) : ∀ (as : List Value), (lg_sl (as.map (qq_mv ad))).length = (lg_sl as).length
  | [] => rfl
  | v :: vs => by
    have ih := qq_sll ad vs
    simp only [lg_sl, List.map_cons, List.flatMap_cons, List.length_append] at ih ⊢
    rw [ih, qq_cat]
    by_cases h : v.category = 2
    · simp [h]
    · simp [h]
theorem qq_wla {n : Nat} : ∀ (as : List Value) (i : Nat), qq_wk n as → qq_wl n (lv_args i as)
  | [], _, _ => fun q hq => nomatch hq
  | v :: vs, i, h => fun q hq => by
    rcases List.mem_cons.mp hq with rfl | h2
    · exact qq_wh h
    · exact qq_wla vs _ (qq_wt h) q h2
theorem qq_met {M : qq_M} {as : List Value} {hp : qq_H} {mc ms : Nat} {P : Option Value → qq_H → Prop} {PX : String → qq_H → Prop} (hy : plainName M.y.cls = true) (hlen : (lg_sl as).length ≤ M.mx) (hlv : 1 ≤ M.lv) (hc : qq_cw M ∈ lw_gd) (g : qq_Go M hp mc ms 0 (lv_args 0 as) [] P PX) : qq_Mt M as hp mc ms P PX := by
  intro l D base ad htr hwk
  have body : ∀ p e s m args below meth c s₁, BodyLoose p l M.y (headSpec (qq_cw M :: lw_gd) (qq_rm M mc ms)) M.cc M.mx M.rt e s m args below meth c s₁ → c.maxLocals = M.mx → c.exceptionTable.toList = tableOf M.hh → va_Pc (as.map (qq_mv ad)) (qq_Pre D base ad hp) args s →
      W p l e (headSpec (qq_cw M :: lw_gd) (qq_rm M mc ms)).room s m args below meth c s.heap [] 0 0 (vx_MQ below (qq_Q D base ad hp P) (qq_QX D base ad hp PX) args s mc ms (qq_A base)) (entryFrame m args M.mx) := by
    intro p e s m args below meth c s₁ B hml hex hv
    obtain ⟨rfl, hR, hK, hX⟩ := hv
    have hts0 := atoms_spec (ws := qq_cw M :: lw_gd) B.pre
    rw [lg_entry_eq]
    have hl := lv_entry (as.map (qq_mv ad)) (n := M.mx) (by rw [qq_sll]; exact hlen)
    rw [qq_lvm] at hl
    exact g D base ad p l e (qq_rm M mc ms) s m _ below meth c s.heap [] 0 0 _
      ⟨B.exec, B.bytes, B.returns, hml, findClass_of_methodNamed B.named, B.notSynchronized, (name_of_methodNamed B.named B.method).1, fun w hw => hts0 w (List.mem_cons_of_mem _ hw), hex, ⟨Nat.le_refl _, Nat.le_refl _, hlv⟩, htr, hK, hX⟩
      ⟨hl, qq_wla as 0 hwk, fun v hv => (List.not_mem_nil hv).elim, hR, va_S.rf, Nat.le_of_eq (Nat.zero_add _), Nat.le_of_eq (Nat.zero_add _)⟩
  unfold qq_cw at body ⊢
  cases hh : M.hh with
  | nil =>
    rw [hh] at body
    exact vx_ofW (cc := M.cc) (maxL := M.mx) (ret := M.rt) hy rfl (fun p e s m args below meth c s₁ B hml hno hv => body p e s m args below meth c s₁ B hml (List.eq_nil_iff_forall_not_mem.mpr fun x hx => hno x hx) hv)
  | cons a b =>
    rw [hh] at body
    refine vx_ofWH (cc := M.cc) (maxL := M.mx) (ret := M.rt) (hh := a :: b) hy rfl (fun p e s m args below meth c s₁ B hml hv => body p e s m args below meth c s₁ B hml ?_ hv)
    have hts0 := atoms_spec (ws := Cond.codeWith M.y M.cc M.mx M.rt (a :: b) :: lw_gd) B.pre
    exact vx_table (x := M.y) B (hts0 _ List.mem_cons_self)
/-! calls -/
/-- a frame of the method with a throwable of class E over it -/
def qq_GX (M : qq_M) (hp : qq_H) (bc bs : Nat) (pc : Nat) (loc : List (Nat × Value)) (E : String) (P : Option Value → qq_H → Prop) (PX : String → qq_H → Prop) : Prop :=
  ∀ (D : qq_D) (base : Nat) (ad : Nat → Nat) (p : Program) (l : Launch) (e : Env) (R : Room) (s : State) (m : MethodId) (args : Array Value) (below : List Frame) (meth : Method) (c : Code) (H : Heap) (locs : List Loc) (cells slots : Nat) (ls : Array Slot) (rs : List Value) (q : Addr) (ce : Cell),
    qq_Cx M D base ad hp p l R s m args meth c → qq_Cy M D base ad hp bc bs loc [] R s H locs cells slots ls → H[q]? = some ce → ce.vm = .none → s.vm.findClass E = some ce.cls →
    vx_W p l e R s m args below meth c H locs cells slots (vx_MQ below (qq_Q D base ad hp P) (qq_QX D base ad hp PX) args s R.cells R.slots (qq_A base)) (F0 m pc ls rs) q
theorem qq_thr {M : qq_M} {hp : qq_H} {bc bs pc : Nat} {loc : List (Nat × Value)} {E : String} {P : Option Value → qq_H → Prop} {PX : String → qq_H → Prop} (hh : M.hh = []) (h : PX E hp) : qq_GX M hp bc bs pc loc E P PX := by
  intro D base ad p l e R s m args below meth c H locs cells slots ls rs q ce C1 C2 h1 h2 h3
  refine vx_out ?_ C1.2.2.2.2.2.1 h1 h2 h3 (fun t ht hW => ⟨⟨hp, ad, h, Nat.le_refl _, fun _ _ => rfl, fun _ _ => rfl, by rw [ht]; exact C2.2.2.2.1⟩, C2.2.2.2.2.1.F ht⟩) (fun q hq => C2.2.2.2.2.1.2.2 q hq) (by have := C2.2.2.2.2.2.1; omega) (by have := C2.2.2.2.2.2.2; omega)
  intro x hx
  have h9 := C1.2.2.2.2.2.2.2.2.1
  rw [hh] at h9
  rw [h9] at hx
  exact nomatch hx
theorem qq_blind {D : qq_D} {base : Nat} {ad : Nat → Nat} {hp : qq_H} {av : List Value} : FrameBlind (va_Pc av (qq_Pre D base ad hp)) := by
  intro a U g mk h
  obtain ⟨h0, hR, hK, hX⟩ := h
  exact ⟨h0, hR, va_K.moved (u := U) (U := U.calling g mk a) (Vm.Alike.refl U.vm) hK, qq_XXk (U := U.calling g mk a) (Vm.Alike.refl U.vm) (fun own k tx b h => vk_R.same rfl h) (fun h => qq_okS (s := U) (U := U.calling g mk a) rfl h) (Nat.le_refl _) (fun _ _ _ => rfl) hX⟩
theorem qq_preS {M : qq_M} {D : qq_D} {base : Nat} {ad : Nat → Nat} {hp : qq_H} {bc bs : Nat} {loc : List (Nat × Value)} {stk : List Value} {p : Program} {l : Launch} {R : Room} {s : State} {m : MethodId} {args : Array Value} {meth : Method} {c : Code} {H : Heap} {locs : List Loc} {cells slots : Nat} {ls : Array Slot} {as : List Value}
    (C1 : qq_Cx M D base ad hp p l R s m args meth c) (C2 : qq_Cy M D base ad hp bc bs loc stk R s H locs cells slots ls) : PreS s H (va_Pc (as.map (qq_mv ad)) (qq_Pre D base ad hp)) (as.map (qq_mv ad)) :=
  ⟨qq_blind, fun U hU hW => ⟨rfl, by rw [hU]; exact C2.2.2.2.1, va_K.moved hW.alike C1.2.2.2.2.2.2.2.2.2.2.2.1, by
    rw [hU]
    exact qq_XXk hW.alike (fun own k tx b h => vk_R.warm hW h) (qq_okW hW) C2.2.2.2.2.1.1 C2.2.2.2.2.1.2.1 C1.2.2.2.2.2.2.2.2.2.2.2.2⟩⟩
/-- behind a call -/
theorem qq_run {M : qq_M} {D : qq_D} {base : Nat} {ad : Nat → Nat} {hp : qq_H} {bc bs mc ms pc : Nat} {loc : List (Nat × Value)} {stk rest : List Value} {p : Program} {l : Launch} {e : Env} {R : Room} {s : State} {m : MethodId} {args : Array Value} {below : List Frame} {meth : Method} {c : Code} {H : Heap} {locs : List Loc} {cells slots : Nat} {ls : Array Slot} {P P' : Option Value → qq_H → Prop} {PX PX' : String → qq_H → Prop} {st0 : List Value} {a : Array Value}
    (hr : vx_Run p l e R s m args below meth c H locs cells slots mc ms (F0 m pc ls st0) (rest.map (qq_mv ad)) (qq_Q D base ad hp P' a) (qq_QX D base ad hp PX') (qq_A base))
    (C1 : qq_Cx M D base ad hp p l R s m args meth c) (C2 : qq_Cy M D base ad hp (bc + mc) (bs + ms) loc stk R s H locs cells slots ls) (hk : qq_wk hp.1 rest)
    (kk : ∀ (v : Option Value) (hp' : qq_H), P' v hp' → hp.1 ≤ hp'.1 → (∀ k, k < qq_E → hp'.2 k = hp.2 k) → qq_Go M hp' bc bs (pc + 3) loc (v.toList ++ rest) P PX)
    (kx : ∀ (E : String) (hp' : qq_H), PX' E hp' → hp.1 ≤ hp'.1 → (∀ k, k < qq_E → hp'.2 k = hp.2 k) → qq_GX M hp' bc bs pc loc E P PX) :
    W p l e R s m args below meth c H locs cells slots (vx_MQ below (qq_Q D base ad hp P) (qq_QX D base ad hp PX) args s R.cells R.slots (qq_A base)) (F0 m pc ls st0) := by
  intro T hT X
  have hE := C2.2.2.2.1.1
  have b1 : cells + mc + bc ≤ R.cells := by have := C2.2.2.2.2.2.1; omega
  have b2 : slots + ms + bs ≤ R.slots := by have := C2.2.2.2.2.2.2; omega
  rcases hr T hT X with ⟨v, st₀, t, T', L, h0, X', hL, e1, e2, ⟨⟨v', hp', ad', ev, hp1, hsz, hext, hag, hR', hwv⟩, hF⟩, st⟩ | ⟨q, st₀, t, T', L, E, ce, h0, X', hL, e1, e2, ⟨⟨hp', ad', hp1, hsz, hext, hag, hR'⟩, hF⟩, hce, hcv, hcl, st⟩
  · cases ev
    obtain ⟨k1, k2, k3⟩ := vx_keep h0 e1 C2.2.2.2.2.1 (fun _ _ h => h) (fun _ h => h) hL hF
    have hX := qq_XXe hE hag C2.2.2.2.1.2.2.2 hext qq_sfw qq_stw C1.2.2.2.2.2.2.2.2.2.2.2.2
    have hl := C2.1
    rw [← qq_mle hag C2.2.1] at hl
    have hst : qq_wk hp'.1 (v'.toList ++ rest) := fun w hw => by
      rcases List.mem_append.mp hw with h | h
      · exact hwv w (by simpa using h)
      · exact qq_wkm hk hsz w h
    rw [← e1] at hR'
    obtain ⟨t2, a1, b3⟩ := kk v' hp' hp1 hsz hext D base ad' p l e R s m args below meth c T'.heap (locs ++ L) (cells + mc) (slots + ms) ls
      ⟨C1.1, C1.2.1, C1.2.2.1, C1.2.2.2.1, C1.2.2.2.2.1, C1.2.2.2.2.2.1, C1.2.2.2.2.2.2.1, C1.2.2.2.2.2.2.2.1, C1.2.2.2.2.2.2.2.2.1, C1.2.2.2.2.2.2.2.2.2.1, C1.2.2.2.2.2.2.2.2.2.2.1, C1.2.2.2.2.2.2.2.2.2.2.2.1, hX⟩
      ⟨hl, qq_wlm C2.2.1 hsz, hst, hR', k3, b1, b2⟩ T' rfl X'
    refine ⟨t2, st t2 ?_, qq_Qm hsz hext hag t2 b3⟩
    have e3 : (v'.toList ++ rest).map (qq_mv ad') = (v'.map (qq_mv ad')).toList ++ rest.map (qq_mv ad) := by
      rw [List.map_append, qq_mke hag hk]
      cases v' <;> rfl
    rw [e3] at a1
    exact a1
  · obtain ⟨k1, k2, k3⟩ := vx_keep h0 e1 C2.2.2.2.2.1 (fun _ _ h => h) (fun _ h => h) hL hF
    have hX := qq_XXe hE hag C2.2.2.2.1.2.2.2 hext qq_sfw qq_stw C1.2.2.2.2.2.2.2.2.2.2.2.2
    have hl := C2.1
    rw [← qq_mle hag C2.2.1] at hl
    rw [← e1] at hR' hce
    obtain ⟨t2, a1, b3⟩ := kx E hp' hp1 hsz hext D base ad' p l e R s m args below meth c T'.heap (locs ++ L) (cells + mc) (slots + ms) ls (rest.map (qq_mv ad)) q ce
      ⟨C1.1, C1.2.1, C1.2.2.1, C1.2.2.2.1, C1.2.2.2.2.1, C1.2.2.2.2.2.1, C1.2.2.2.2.2.2.1, C1.2.2.2.2.2.2.2.1, C1.2.2.2.2.2.2.2.2.1, C1.2.2.2.2.2.2.2.2.2.1, C1.2.2.2.2.2.2.2.2.2.2.1, C1.2.2.2.2.2.2.2.2.2.2.2.1, hX⟩
      ⟨hl, qq_wlm C2.2.1 hsz, fun v hv => (List.not_mem_nil hv).elim, hR', k3, b1, b2⟩ hce hcv hcl T' rfl X'
    exact ⟨t2, st.trans a1, qq_Qm hsz hext hag t2 b3⟩
theorem qq_sum {ad : Nat → Nat} {rest : List Value} (h : (rest.map fun v => v.category).sum ≤ 8) : ((rest.map (qq_mv ad)).map fun v => v.category).sum ≤ 8 := by
  rw [List.map_map, show ((fun v : Value => v.category) ∘ qq_mv ad) = (fun v => v.category) from funext (qq_cat ad)]
  exact h
theorem qq_gin {w : Cond} {ws : List Cond} (h : w ∈ lw_gd) (hs : GoodIn lw_gd ws) : GoodIn lw_gd (w :: ws) := fun w' hw => (List.mem_cons.mp hw).elim (fun e => by rw [e]; exact ⟨h, qq_good _ h⟩) (hs w')
theorem qq_ginT : GoodIn lw_gd lw_gd := fun w hw => ⟨hw, qq_good w hw⟩
/-- the place of an argument row on the stack -/
theorem qq_wrev {n : Nat} {as rest : List Value} (h : qq_wk n (as.reverse ++ rest)) : qq_wk n as ∧ qq_wk n rest := ⟨fun v hv => h v (List.mem_append_left _ (List.mem_reverse.mpr hv)), fun v hv => h v (List.mem_append_right _ hv)⟩
abbrev qq_hd (y : MethodName) (n : Nat) : Prop := y.cls ≠ "java/lang/invoke/MethodHandle" ∧ y.cls ≠ "java/lang/invoke/VarHandle" ∧ (parseMethodDescriptor y.desc).map (fun d => d.parameters.length) = some n
section QC
variable {M M' : qq_M} {hp : qq_H} {bc bs mc ms pc idx n : Nat} {loc : List (Nat × Value)} {as rest : List Value} {P P' : Option Value → qq_H → Prop} {PX PX' : String → qq_H → Prop}
theorem qq_room {D : qq_D} {base : Nat} {ad : Nat → Nat} {p : Program} {l : Launch} {R : Room} {s : State} {m : MethodId} {args : Array Value} {meth : Method} {c : Code} (C1 : qq_Cx M D base ad hp p l R s m args meth c) (hlv : M'.lv < M.lv) (hmx : M'.mx ≤ 60) : (qq_rm M' mc ms).frames + 1 ≤ R.frames ∧ 8 + (M'.mx + 11) + (qq_rm M' mc ms).locals ≤ R.locals := by
  have h := C1.2.2.2.2.2.2.2.2.2.1
  show 12 * M'.lv + 1 ≤ _ ∧ 8 + (M'.mx + 11) + 120 * M'.lv ≤ _
  omega
theorem qq_callS (hdg : decode M.cc pc = .ok (.invokestatic idx, 3)) (hM : qq_Mt M' as hp mc ms P' PX') (hh : M'.hh = []) (hw1 : Cond.methodLink M.y.cls idx M'.y ∈ lw_gd) (hw2 : Cond.static M'.y ∈ lw_gd) (hw3 : Cond.initialized M'.y.cls ∈ lw_gd) (hw4 : qq_cw M' ∈ lw_gd) (hd : qq_hd M'.y n) (hn : as.length = n) (hmx : M'.mx ≤ 60) (hlv : M'.lv < M.lv) (hst : (rest.map fun v => v.category).sum ≤ 8)
    (kk : ∀ (v : Option Value) (hp' : qq_H), P' v hp' → hp.1 ≤ hp'.1 → (∀ k, k < qq_E → hp'.2 k = hp.2 k) → qq_Go M hp' bc bs (pc + 3) loc (v.toList ++ rest) P PX)
    (kx : ∀ (E : String) (hp' : qq_H), PX' E hp' → hp.1 ≤ hp'.1 → (∀ k, k < qq_E → hp'.2 k = hp.2 k) → qq_GX M hp' bc bs pc loc E P PX) : qq_Go M hp (bc + mc) (bs + ms) pc loc (as.reverse ++ rest) P PX := by
  intro D base ad p l e R s m args below meth c H locs cells slots ls C1 C2
  obtain ⟨hwa, hwr⟩ := qq_wrev C2.2.2.1
  have hM1 := hM l D base ad C1.2.2.2.2.2.2.2.2.2.2.1 hwa
  have ec : qq_cw M' = .code M'.y M'.cc M'.mx M'.rt := by unfold qq_cw; rw [hh]
  rw [ec] at hM1 hw4
  have cw := va_cwS (R := R) (s := s) (args := args) (own := M.y.cls) (index := idx) (y := M'.y) (bytes := M'.cc) (maxL := M'.mx) (ret := M'.rt) (mc := mc) (ms := ms) (rm := qq_rm M' mc ms) (ws := .code M'.y M'.cc M'.mx M'.rt :: lw_gd) n C1.2.2.2.2.2.2.2.1 (qq_gin hw1 (qq_gin hw2 (qq_gin hw3 (qq_gin hw4 qq_ginT)))) rfl rfl rfl hd (qq_room C1 hlv hmx)
  have hR := vx_runS (As := as.map (qq_mv ad)) (rest := rest.map (qq_mv ad)) (g := F0 m pc ls ((as.reverse ++ rest).map (qq_mv ad))) (H := H) (locs := locs) (cells := cells) (slots := slots) (below := below) (e := e) (meth := meth) ⟨C1.1, C1.2.1, C1.2.2.2.1, C1.2.2.2.2.1, C1.2.2.2.2.2.2.2.1⟩ hM1 cw (qq_preS C1 C2) rfl (by rw [List.length_map]; exact hn) C2.1.1 (by show (as.reverse ++ rest).map _ = _; rw [List.map_append, List.map_reverse]) (lv_room (qq_sum hst)) hdg ⟨by have := C2.2.2.2.2.2.1; omega, by have := C2.2.2.2.2.2.2; omega⟩
  exact qq_run hR C1 C2 hwr kk kx
end QC

