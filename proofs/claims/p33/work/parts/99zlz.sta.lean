/-! the start: what the premises say of what was there -/
theorem st_sel {y y' : MethodName} {cls : String} {s : State} {args : Array Value} (hy : y.cls ≠ "java/lang/invoke/MethodHandle" ∧ y.cls ≠ "java/lang/invoke/VarHandle") (hc : y'.cls = y.cls) (hsel : (Cond.selects cls y' y').before args s = true) (hpriv : (Cond.privateMethod y).before args s = true) (hinst : (Cond.instanceMethod y).before args s = true) : (Cond.selects cls y y).before args s = true := by
  obtain ⟨mk, methM, hnamed, hmethM, -, -⟩ := Cond.instanceMethod_spec hinst
  have hfound : s.methodFound? y.cls y.name y.desc = some mk := State.methodFound?_of_named hnamed hy
  simp only [Cond.before, Cond.holds, Cond.value] at hsel
  cases h1 : s.vm.findClass cls with
  | none => simp [h1] at hsel
  | some c =>
    cases h2 : s.methodFound? y'.cls y'.name y'.desc with
    | none => simp [h1, h2] at hsel
    | some r =>
      cases h3 : s.methodNamed? y' with
      | none => simp [h1, h2, h3] at hsel
      | some m' =>
        have e : m'.cls = mk.cls := Option.some.inj ((findClass_of_methodNamed h3).symm.trans ((congrArg s.vm.findClass hc).trans (findClass_of_methodNamed hnamed)))
        have hs : selectMethod {} s.vm c mk = .method mk := selectMethod_private hmethM (Cond.privateMethod_at hpriv mk methM hnamed hmethM)
        have hk : (s.vm.classes[m'.cls]?).any (!·.isInterface) = true := by
          simp only [h1, h2, h3] at hsel
          cases h4 : selectMethod {} s.vm c r <;> rw [h4] at hsel <;> simp at hsel
          exact hsel.2
        rw [e] at hk
        simp only [Cond.before, Cond.holds, Cond.value, h1, hfound, hnamed, hs]
        simp [hk]
def flR : Cond → List Cond → List Cond
  | .and a b, r => flR a (flR b r)
  | c, r => c :: r
theorem flR_e (c : Cond) : ∀ r : List Cond, flR c r = flatC c ++ r := by
  induction c with
  | and a b iha ihb =>
    intro r
    show flR a (flR b r) = (flatC a ++ flatC b) ++ r
    rw [iha, ihb, List.append_assoc]
  | _ => exact fun r => rfl
abbrev F0c : List Cond := flR (Jvm.Cond.and given_1 narrow_1) []
theorem F0_of {c : Cond} (h : c ∈ F0c) : c ∈ flatC (Jvm.Cond.and given_1 narrow_1) := by
  rw [F0c, flR_e, List.append_nil] at h
  exact h
/-- the term of what was there, by number -/
def st_tm : Nat → Term
  | 1 => .static "Quarterpowers$Rows" "POWERS" "[J"
  | 2 => .static "Quarterpowers$Rows" "LESSENED" "[J"
  | 3 => .static "Quarterpowers$Rows" "LOGGED" "[J"
  | 4 => .static "QuarterpowersModel" "LEAST" "[I"
  | 5 => .static "QuarterpowersModel" "GREATEST" "[I"
  | 6 => .static "QuarterpowersModel" "NAMES" "[Ljava/lang/String;"
  | 7 => .static "java/lang/Integer" "DigitOnes" "[B"
  | 8 => .static "java/lang/Integer" "DigitTens" "[B"
  | 10 => .string "Quarterpowers" 282
  | 11 => .string "Quarterpowers" 290
  | 12 => .string "Quarterpowers" 292
  | 13 => .string "Quarterpowers" 287
  | 14 => .string "Quarterpowers" 104
  | 15 => .string "Quarterpowers" 300
  | 16 => .string "Quarterpowers" 294
  | 20 => .string "Quarterpowers$Num" 40
  | 21 => .string "Quarterpowers$Num" 42
  | 22 => .string "Quarterpowers$Num" 48
  | 23 => .string "Quarterpowers$Num" 50
  | 24 => .string "Quarterpowers$Num" 66
  | 25 => .string "Quarterpowers$Num" 68
  | 26 => .string "Quarterpowers$Num" 70
  | 27 => .string "Quarterpowers$Num" 72
  | 28 => .string "Quarterpowers$Num" 74
  | 29 => .string "Quarterpowers$Num" 76
  | 30 => .field (Term.string "Quarterpowers$Num" 40) "java/lang/String" "value" "[B"
  | 31 => .field (Term.string "Quarterpowers$Num" 42) "java/lang/String" "value" "[B"
  | 32 => .field (Term.string "Quarterpowers$Num" 48) "java/lang/String" "value" "[B"
  | 33 => .field (Term.string "Quarterpowers$Num" 50) "java/lang/String" "value" "[B"
  | 34 => .field (Term.string "Quarterpowers$Num" 66) "java/lang/String" "value" "[B"
  | 35 => .field (Term.string "Quarterpowers$Num" 68) "java/lang/String" "value" "[B"
  | 36 => .field (Term.string "Quarterpowers$Num" 70) "java/lang/String" "value" "[B"
  | 37 => .field (Term.string "Quarterpowers$Num" 72) "java/lang/String" "value" "[B"
  | 38 => .field (Term.string "Quarterpowers$Num" 74) "java/lang/String" "value" "[B"
  | 39 => .field (Term.string "Quarterpowers$Num" 76) "java/lang/String" "value" "[B"
  | 40 => .string "QuarterpowersModel" 210
  | 41 => .string "QuarterpowersModel" 212
  | 42 => .string "QuarterpowersModel" 221
  | 43 => .string "QuarterpowersModel" 227
  | 44 => .string "QuarterpowersModel" 312
  | 45 => .string "QuarterpowersModel" 314
  | 46 => .string "QuarterpowersModel" 316
  | 47 => .string "QuarterpowersModel" 318
  | 48 => .string "QuarterpowersModel" 320
  | 49 => .string "QuarterpowersModel" 322
  | 50 => .field (Term.string "QuarterpowersModel" 210) "java/lang/String" "value" "[B"
  | 51 => .field (Term.string "QuarterpowersModel" 212) "java/lang/String" "value" "[B"
  | 52 => .field (Term.string "QuarterpowersModel" 221) "java/lang/String" "value" "[B"
  | 53 => .field (Term.string "QuarterpowersModel" 227) "java/lang/String" "value" "[B"
  | 54 => .field (Term.string "QuarterpowersModel" 312) "java/lang/String" "value" "[B"
  | 55 => .field (Term.string "QuarterpowersModel" 314) "java/lang/String" "value" "[B"
  | 56 => .field (Term.string "QuarterpowersModel" 316) "java/lang/String" "value" "[B"
  | 57 => .field (Term.string "QuarterpowersModel" 318) "java/lang/String" "value" "[B"
  | 58 => .field (Term.string "QuarterpowersModel" 320) "java/lang/String" "value" "[B"
  | 59 => .field (Term.string "QuarterpowersModel" 322) "java/lang/String" "value" "[B"
  | _ => .arg 0
def st_ad (b : Nat) (s : State) (k : Nat) : Nat := match (st_tm k).eval #[.ref b] s none [] s with
  | some (.ref t) => t
  | _ => 0
theorem st_ade {b : Nat} {s : State} {k t : Nat} (h : (st_tm k).eval #[.ref b] s none [] s = some (.ref t)) : st_ad b s k = t := by
  unfold st_ad
  rw [h]
theorem st_mem {W : List Cond} {i n : Nat} (h : (F0c.drop i).take n = W) {w : Cond} (hw : w ∈ W) : w ∈ F0c := by
  rw [← h] at hw
  exact List.mem_of_mem_drop (List.mem_of_mem_take hw)
def w_row (tm : Term) (ty : FieldType) (N : Nat) (g : Nat → Term) : List Cond := [.arrayOf tm ty, .eq (.length tm) (.int (Int32.ofNat N))] ++ (List.range N).map (fun j => .eq (.elem tm (.int (Int32.ofNat j))) (g j))
theorem w_row3 {tm : Term} {ty : FieldType} {N : Nat} {g : Nat → Term} {j : Nat} (hj : j < N) : Cond.eq (.elem tm (.int (Int32.ofNat j))) (g j) ∈ w_row tm ty N g := List.mem_append_right _ (List.mem_map.mpr ⟨j, List.mem_range.mpr hj, rfl⟩)
def w_str (t : Term) (byt : List Int32) : List Cond := [.exactly t "java/lang/String", .eq (.field t "java/lang/String" "coder" "B") (.int 0)] ++ w_row (.field t "java/lang/String" "value" "[B") .byte byt.length (fun j => .int (byt.getD j 0))
def st_hp (L : Nat) (xs : Nat → Int32) : qq_H := (80, fun k => if k = 0 then .inl (0, L, .inl xs) else qq_xt k)
theorem st_ex (L : Nat) (xs : Nat → Int32) : qq_ex (st_hp L xs) := ⟨Nat.le_refl _, fun k h _ => if_neg (by omega)⟩
theorem st_n6 {j r : Nat} (h : t_nm j = some r) : r < 80 := by
  have := List.mem_of_getElem? (l := [44, 40, 45, 46, 47, 48, 49]) h
  simp only [List.mem_cons, List.not_mem_nil, or_false] at this
  omega
theorem st_w2 {q : Nat} (h : q < 80) : qq_wk 80 [.ref q, .int 0] := qq_wu (fun k hk => by cases hk; exact h) (qq_wi (fun v hv => nomatch hv))
section ST
variable {b : Nat} {s : State}
theorem st_hA : ∀ a : Nat, a < s.heap.size → ¬ qq_A s.heap.size a := fun _ h z => Nat.not_le.mpr h z
theorem st_row {tm : Term} {ty : FieldType} {N : Nat} {g : Nat → Term} {f : Nat → Value} (hF : ∀ c ∈ F0c, c.before #[.ref b] s = true) {i n : Nat} (h : (F0c.drop i).take n = w_row tm ty N g) (hN : N < 2 ^ 31) (hv : ∀ (t : Term) (j : Nat), j < N → (Cond.eq t (g j)).before #[.ref b] s = true → t.eval #[.ref b] s none [] s = some (f j)) : ∃ t : Nat, tm.eval #[.ref b] s none [] s = some (.ref t) ∧ va_T ty t N f (qq_A s.heap.size) s s.heap := by
  have hm : ∀ w ∈ w_row tm ty N g, w.before #[.ref b] s = true := fun w hw => hF _ (st_mem h hw)
  exact va_Tof hN (hm _ List.mem_cons_self) (va_eqt (hm _ (List.mem_cons_of_mem _ List.mem_cons_self))) (fun j hj => hv _ j hj (hm _ (w_row3 hj))) st_hA
theorem st_str (hF : ∀ c ∈ F0c, c.before #[.ref b] s = true) {byt : List Int32} (hlen : byt.length < 2 ^ 31) {i n kk kv : Nat} (h : (F0c.drop i).take n = w_str (st_tm kk) byt) (h2 : st_tm kv = .field (st_tm kk) "java/lang/String" "value" "[B") : qq_xc s.heap.size (st_ad b s) (st_ad b s kk) (.inr (0, [.ref kv, .int 0])) s s.heap ∧ qq_xc s.heap.size (st_ad b s) (st_ad b s kv) (.inl (3, byt.length, .inl (fun j => byt.getD j 0))) s s.heap ∧ (st_tm kk).eval #[.ref b] s none [] s = some (.ref (st_ad b s kk)) := by
  have hm : ∀ w ∈ w_str (st_tm kk) byt, w.before #[.ref b] s = true := fun w hw => hF _ (st_mem h hw)
  have hm2 : ∀ w ∈ w_row (.field (st_tm kk) "java/lang/String" "value" "[B") .byte byt.length (fun j => .int (byt.getD j 0)), w.before #[.ref b] s = true := fun w hw => hm w (List.mem_append_right _ hw)
  obtain ⟨a, c, cA, kA, q1, q2, q3, q4, q5, q6, -⟩ := Cond.exactly_spec (args := #[.ref b]) (first := s) (o := none) (s := s) (idx := []) (t := st_tm kk) (cls := "java/lang/String") (hm _ List.mem_cons_self)
  have ea : st_ad b s kk = a := st_ade q1
  obtain ⟨v, ht, hT⟩ := va_Tof (f := fun j => .int (byt.getD j 0)) (A := qq_A s.heap.size) hlen (hm2 _ List.mem_cons_self) (va_eqt (hm2 _ (List.mem_cons_of_mem _ List.mem_cons_self))) (fun j hj => va_eqt (hm2 _ (w_row3 hj))) st_hA
  have ev : st_ad b s kv = v := st_ade (by rw [h2]; exact ht)
  have hco := va_eqt (hm _ (List.mem_cons_of_mem _ List.mem_cons_self))
  refine ⟨fun r hr => ?_, ?_, ?_⟩
  · obtain rfl := Option.some.inj (show some (RJ0, TJ0, 4) = some r from hr)
    rw [ea]
    refine ⟨⟨cA, q3, q5, by rw [q6]; exact q2, st_hA a (Array.getElem?_eq_some_iff.mp q3).1⟩, fun k w hw => ?_⟩
    match k, hw with
    | 0, hw =>
      cases hw
      show va_OF "java/lang/String" "value" "[B" (.ref (st_ad b s kv)) a (qq_A s.heap.size) s s.heap
      rw [ev]
      exact vk_OFof q1 ht st_hA
    | 1, hw =>
      cases hw
      exact vk_OFof q1 hco st_hA
    | k + 2, hw => simp at hw
  · rw [ev]
    exact hT
  · rw [ea]
    exact q1
theorem st_dead {a : Nat} : qq_xc s.heap.size (st_ad b s) a (.inr (99, [])) s s.heap := fun r hr => nomatch (show (none : Option vw_C) = some r from hr)
theorem st_vk {own tx : String} {i k : Nat} (h1 : (Cond.stringRef own i tx).before #[.ref b] s = true) (h2 : (Cond.exactly (.string own i) "java/lang/String").before #[.ref b] s = true) (h3 : st_tm k = .string own i) : vk_R own i tx (st_ad b s k) s := by
  obtain ⟨a, c, cA, kA, q1, -⟩ := Cond.exactly_spec (args := #[.ref b]) (first := s) (o := none) (s := s) (idx := []) (t := .string own i) (cls := "java/lang/String") h2
  rw [st_ade (k := k) (by rw [h3]; exact q1)]
  exact vk_R.of h1 q1
theorem st_xw : ∀ w ∈ qq_xw, w ∈ lw_tbl := by
  have h : qq_xw.all (fun w => decide (w ∈ lw_tbl)) = true := by decide +kernel
  exact fun w hw => of_decide_eq_true (List.all_eq_true.mp h w hw)
theorem st_scr {L : Nat} {xs : Nat → Int32} (hX : va_X b L xs s s.heap) (hL : L ≤ 256) : qq_xc s.heap.size (st_ad b s) (st_ad b s 0) ((st_hp L xs).2 0) s s.heap := by
  have e : st_ad b s 0 = b := rfl
  rw [e]
  obtain ⟨scr, h1, h2, h3, h4, h5⟩ := hX
  show va_T .int b L (fun j => .int (xs j)) (qq_A s.heap.size) s s.heap
  exact ⟨scr, h1, h2, h3, Nat.le_of_eq h4.symm, by rw [h4], h5, st_hA b (Array.getElem?_eq_some_iff.mp h1).1⟩
theorem st_arr {ty : FieldType} {args : Array Value} (h : (Cond.arrayClass ty).before args s = true) (hv : ∀ C : String, ty ≠ .object C) : ∃ cA, ArrOfT s cA ty ∧ va_RA s cA ty := by
  obtain ⟨cA, kA, comp, h1, h2, h3⟩ := Cond.arrayClass_spec h
  refine ⟨cA, fun n z => ⟨fun k h => (by cases h), kA, h2, comp, h3⟩, ?_⟩
  cases ty with
  | object C => exact absurd rfl (hv C)
  | _ => exact h1
theorem st_arr4 {args : Array Value} (h : (Cond.arrayOver (.array .int)).before args s = true) : ∃ cA, ArrOfT s cA (.array .int) ∧ va_RA s cA (.array .int) := by
  obtain ⟨comp, c, k, h1, h2, h3, h4, h5⟩ := arrayOverA_spec h
  exact ⟨c, fun n z => ⟨fun k h => (by cases h), k, h3, comp, h4⟩, h5⟩

theorem sf_1 : (F0c.drop 5).take 323 = w_row (st_tm 1) .long 321 (fun j => .long (tP j)) := by decide +kernel
theorem xc_1 (hF : ∀ c ∈ F0c, c.before #[.ref b] s = true) : qq_xc s.heap.size (st_ad b s) (st_ad b s 1) (qq_xt 1) s s.heap ∧ (st_tm 1).eval #[.ref b] s none [] s = some (.ref (st_ad b s 1)) := by
  obtain ⟨t, e1, e2⟩ := st_row (f := fun j => .long (tP j)) hF sf_1 (by decide) (fun _ _ _ h => va_eqtl h)
  have e := st_ade (k := 1) e1
  refine ⟨?_, by rw [e]; exact e1⟩
  show va_T .long (st_ad b s 1) 321 (fun j => .long (tP j)) (qq_A s.heap.size) s s.heap
  rw [e]
  exact e2
theorem sf_2 : (F0c.drop 329).take 275 = w_row (st_tm 2) .long 273 (fun j => .long (tL j)) := by decide +kernel
theorem xc_2 (hF : ∀ c ∈ F0c, c.before #[.ref b] s = true) : qq_xc s.heap.size (st_ad b s) (st_ad b s 2) (qq_xt 2) s s.heap ∧ (st_tm 2).eval #[.ref b] s none [] s = some (.ref (st_ad b s 2)) := by
  obtain ⟨t, e1, e2⟩ := st_row (f := fun j => .long (tL j)) hF sf_2 (by decide) (fun _ _ _ h => va_eqtl h)
  have e := st_ade (k := 2) e1
  refine ⟨?_, by rw [e]; exact e1⟩
  show va_T .long (st_ad b s 2) 273 (fun j => .long (tL j)) (qq_A s.heap.size) s s.heap
  rw [e]
  exact e2
theorem sf_3 : (F0c.drop 605).take 166 = w_row (st_tm 3) .long 164 (fun j => .long (tG j)) := by decide +kernel
theorem xc_3 (hF : ∀ c ∈ F0c, c.before #[.ref b] s = true) : qq_xc s.heap.size (st_ad b s) (st_ad b s 3) (qq_xt 3) s s.heap ∧ (st_tm 3).eval #[.ref b] s none [] s = some (.ref (st_ad b s 3)) := by
  obtain ⟨t, e1, e2⟩ := st_row (f := fun j => .long (tG j)) hF sf_3 (by decide) (fun _ _ _ h => va_eqtl h)
  have e := st_ade (k := 3) e1
  refine ⟨?_, by rw [e]; exact e1⟩
  show va_T .long (st_ad b s 3) 164 (fun j => .long (tG j)) (qq_A s.heap.size) s s.heap
  rw [e]
  exact e2
theorem sf_4 : (F0c.drop 985).take 6 = w_row (st_tm 4) .int 4 (fun j => .int (t_le j)) := by decide +kernel
theorem xc_4 (hF : ∀ c ∈ F0c, c.before #[.ref b] s = true) : qq_xc s.heap.size (st_ad b s) (st_ad b s 4) (qq_xt 4) s s.heap ∧ (st_tm 4).eval #[.ref b] s none [] s = some (.ref (st_ad b s 4)) := by
  obtain ⟨t, e1, e2⟩ := st_row (f := fun j => .int (t_le j)) hF sf_4 (by decide) (fun _ _ _ h => va_eqt h)
  have e := st_ade (k := 4) e1
  refine ⟨?_, by rw [e]; exact e1⟩
  show va_T .int (st_ad b s 4) 4 (fun j => .int (t_le j)) (qq_A s.heap.size) s s.heap
  rw [e]
  exact e2
theorem sf_5 : (F0c.drop 992).take 6 = w_row (st_tm 5) .int 4 (fun j => .int (t_gr j)) := by decide +kernel
theorem xc_5 (hF : ∀ c ∈ F0c, c.before #[.ref b] s = true) : qq_xc s.heap.size (st_ad b s) (st_ad b s 5) (qq_xt 5) s s.heap ∧ (st_tm 5).eval #[.ref b] s none [] s = some (.ref (st_ad b s 5)) := by
  obtain ⟨t, e1, e2⟩ := st_row (f := fun j => .int (t_gr j)) hF sf_5 (by decide) (fun _ _ _ h => va_eqt h)
  have e := st_ade (k := 5) e1
  refine ⟨?_, by rw [e]; exact e1⟩
  show va_T .int (st_ad b s 5) 4 (fun j => .int (t_gr j)) (qq_A s.heap.size) s s.heap
  rw [e]
  exact e2
theorem sf_7 : (F0c.drop 779).take 102 = w_row (st_tm 7) .byte 100 (fun j => .int (t_d1 j)) := by decide +kernel
theorem xc_7 (hF : ∀ c ∈ F0c, c.before #[.ref b] s = true) : qq_xc s.heap.size (st_ad b s) (st_ad b s 7) (qq_xt 7) s s.heap ∧ (st_tm 7).eval #[.ref b] s none [] s = some (.ref (st_ad b s 7)) := by
  obtain ⟨t, e1, e2⟩ := st_row (f := fun j => .int (t_d1 j)) hF sf_7 (by decide) (fun _ _ _ h => va_eqt h)
  have e := st_ade (k := 7) e1
  refine ⟨?_, by rw [e]; exact e1⟩
  show va_T .byte (st_ad b s 7) 100 (fun j => .int (t_d1 j)) (qq_A s.heap.size) s s.heap
  rw [e]
  exact e2
theorem sf_8 : (F0c.drop 882).take 102 = w_row (st_tm 8) .byte 100 (fun j => .int (t_d2 j)) := by decide +kernel
theorem xc_8 (hF : ∀ c ∈ F0c, c.before #[.ref b] s = true) : qq_xc s.heap.size (st_ad b s) (st_ad b s 8) (qq_xt 8) s s.heap ∧ (st_tm 8).eval #[.ref b] s none [] s = some (.ref (st_ad b s 8)) := by
  obtain ⟨t, e1, e2⟩ := st_row (f := fun j => .int (t_d2 j)) hF sf_8 (by decide) (fun _ _ _ h => va_eqt h)
  have e := st_ade (k := 8) e1
  refine ⟨?_, by rw [e]; exact e1⟩
  show va_T .byte (st_ad b s 8) 100 (fun j => .int (t_d2 j)) (qq_A s.heap.size) s s.heap
  rw [e]
  exact e2
theorem sf_20 : (F0c.drop 1187).take 5 = w_str (st_tm 20) [45] := by decide +kernel
theorem xc_20 (hF : ∀ c ∈ F0c, c.before #[.ref b] s = true) : qq_xc s.heap.size (st_ad b s) (st_ad b s 20) (qq_xt 20) s s.heap ∧ qq_xc s.heap.size (st_ad b s) (st_ad b s 30) (qq_xt 30) s s.heap ∧ (st_tm 20).eval #[.ref b] s none [] s = some (.ref (st_ad b s 20)) := st_str hF (byt := [45]) (by decide) sf_20 rfl
theorem sf_21 : (F0c.drop 1192).take 4 = w_str (st_tm 21) [] := by decide +kernel
theorem xc_21 (hF : ∀ c ∈ F0c, c.before #[.ref b] s = true) : qq_xc s.heap.size (st_ad b s) (st_ad b s 21) (qq_xt 21) s s.heap ∧ qq_xc s.heap.size (st_ad b s) (st_ad b s 31) (qq_xt 31) s s.heap ∧ (st_tm 21).eval #[.ref b] s none [] s = some (.ref (st_ad b s 21)) := st_str hF (byt := []) (by decide) sf_21 rfl
theorem sf_22 : (F0c.drop 1196).take 8 = w_str (st_tm 22) [122, 101, 114, 111] := by decide +kernel
theorem xc_22 (hF : ∀ c ∈ F0c, c.before #[.ref b] s = true) : qq_xc s.heap.size (st_ad b s) (st_ad b s 22) (qq_xt 22) s s.heap ∧ qq_xc s.heap.size (st_ad b s) (st_ad b s 32) (qq_xt 32) s s.heap ∧ (st_tm 22).eval #[.ref b] s none [] s = some (.ref (st_ad b s 22)) := st_str hF (byt := [122, 101, 114, 111]) (by decide) sf_22 rfl
theorem sf_23 : (F0c.drop 1204).take 11 = w_str (st_tm 23) [101, 110, 100, 108, 101, 115, 115] := by decide +kernel
theorem xc_23 (hF : ∀ c ∈ F0c, c.before #[.ref b] s = true) : qq_xc s.heap.size (st_ad b s) (st_ad b s 23) (qq_xt 23) s s.heap ∧ qq_xc s.heap.size (st_ad b s) (st_ad b s 33) (qq_xt 33) s s.heap ∧ (st_tm 23).eval #[.ref b] s none [] s = some (.ref (st_ad b s 23)) := st_str hF (byt := [101, 110, 100, 108, 101, 115, 115]) (by decide) sf_23 rfl
theorem sf_24 : (F0c.drop 1222).take 9 = w_str (st_tm 24) [112, 111, 119, 101, 114] := by decide +kernel
theorem xc_24 (hF : ∀ c ∈ F0c, c.before #[.ref b] s = true) : qq_xc s.heap.size (st_ad b s) (st_ad b s 24) (qq_xt 24) s s.heap ∧ qq_xc s.heap.size (st_ad b s) (st_ad b s 34) (qq_xt 34) s s.heap ∧ (st_tm 24).eval #[.ref b] s none [] s = some (.ref (st_ad b s 24)) := st_str hF (byt := [112, 111, 119, 101, 114]) (by decide) sf_24 rfl
theorem sf_25 : (F0c.drop 1231).take 12 = w_str (st_tm 25) [108, 101, 115, 115, 101, 110, 101, 100] := by decide +kernel
theorem xc_25 (hF : ∀ c ∈ F0c, c.before #[.ref b] s = true) : qq_xc s.heap.size (st_ad b s) (st_ad b s 25) (qq_xt 25) s s.heap ∧ qq_xc s.heap.size (st_ad b s) (st_ad b s 35) (qq_xt 35) s s.heap ∧ (st_tm 25).eval #[.ref b] s none [] s = some (.ref (st_ad b s 25)) := st_str hF (byt := [108, 101, 115, 115, 101, 110, 101, 100]) (by decide) sf_25 rfl
theorem sf_26 : (F0c.drop 1243).take 10 = w_str (st_tm 26) [108, 111, 103, 103, 101, 100] := by decide +kernel
theorem xc_26 (hF : ∀ c ∈ F0c, c.before #[.ref b] s = true) : qq_xc s.heap.size (st_ad b s) (st_ad b s 26) (qq_xt 26) s s.heap ∧ qq_xc s.heap.size (st_ad b s) (st_ad b s 36) (qq_xt 36) s s.heap ∧ (st_tm 26).eval #[.ref b] s none [] s = some (.ref (st_ad b s 26)) := st_str hF (byt := [108, 111, 103, 103, 101, 100]) (by decide) sf_26 rfl
theorem sf_27 : (F0c.drop 1253).take 8 = w_str (st_tm 27) [98, 97, 99, 107] := by decide +kernel
theorem xc_27 (hF : ∀ c ∈ F0c, c.before #[.ref b] s = true) : qq_xc s.heap.size (st_ad b s) (st_ad b s 27) (qq_xt 27) s s.heap ∧ qq_xc s.heap.size (st_ad b s) (st_ad b s 37) (qq_xt 37) s s.heap ∧ (st_tm 27).eval #[.ref b] s none [] s = some (.ref (st_ad b s 27)) := st_str hF (byt := [98, 97, 99, 107]) (by decide) sf_27 rfl
theorem sf_28 : (F0c.drop 1261).take 9 = w_str (st_tm 28) [102, 111, 114, 116, 104] := by decide +kernel
theorem xc_28 (hF : ∀ c ∈ F0c, c.before #[.ref b] s = true) : qq_xc s.heap.size (st_ad b s) (st_ad b s 28) (qq_xt 28) s s.heap ∧ qq_xc s.heap.size (st_ad b s) (st_ad b s 38) (qq_xt 38) s s.heap ∧ (st_tm 28).eval #[.ref b] s none [] s = some (.ref (st_ad b s 28)) := st_str hF (byt := [102, 111, 114, 116, 104]) (by decide) sf_28 rfl
theorem sf_29 : (F0c.drop 1270).take 11 = w_str (st_tm 29) [113, 117, 97, 114, 116, 101, 114] := by decide +kernel
theorem xc_29 (hF : ∀ c ∈ F0c, c.before #[.ref b] s = true) : qq_xc s.heap.size (st_ad b s) (st_ad b s 29) (qq_xt 29) s s.heap ∧ qq_xc s.heap.size (st_ad b s) (st_ad b s 39) (qq_xt 39) s s.heap ∧ (st_tm 29).eval #[.ref b] s none [] s = some (.ref (st_ad b s 29)) := st_str hF (byt := [113, 117, 97, 114, 116, 101, 114]) (by decide) sf_29 rfl
theorem sf_40 : (F0c.drop 1302).take 4 = w_str (st_tm 40) [] := by decide +kernel
theorem xc_40 (hF : ∀ c ∈ F0c, c.before #[.ref b] s = true) : qq_xc s.heap.size (st_ad b s) (st_ad b s 40) (qq_xt 40) s s.heap ∧ qq_xc s.heap.size (st_ad b s) (st_ad b s 50) (qq_xt 50) s s.heap ∧ (st_tm 40).eval #[.ref b] s none [] s = some (.ref (st_ad b s 40)) := st_str hF (byt := []) (by decide) sf_40 rfl
theorem sf_41 : (F0c.drop 1307).take 5 = w_str (st_tm 41) [45] := by decide +kernel
theorem xc_41 (hF : ∀ c ∈ F0c, c.before #[.ref b] s = true) : qq_xc s.heap.size (st_ad b s) (st_ad b s 41) (qq_xt 41) s s.heap ∧ qq_xc s.heap.size (st_ad b s) (st_ad b s 51) (qq_xt 51) s s.heap ∧ (st_tm 41).eval #[.ref b] s none [] s = some (.ref (st_ad b s 41)) := st_str hF (byt := [45]) (by decide) sf_41 rfl
theorem sf_42 : (F0c.drop 1313).take 11 = w_str (st_tm 42) [101, 110, 100, 108, 101, 115, 115] := by decide +kernel
theorem xc_42 (hF : ∀ c ∈ F0c, c.before #[.ref b] s = true) : qq_xc s.heap.size (st_ad b s) (st_ad b s 42) (qq_xt 42) s s.heap ∧ qq_xc s.heap.size (st_ad b s) (st_ad b s 52) (qq_xt 52) s s.heap ∧ (st_tm 42).eval #[.ref b] s none [] s = some (.ref (st_ad b s 42)) := st_str hF (byt := [101, 110, 100, 108, 101, 115, 115]) (by decide) sf_42 rfl
theorem sf_43 : (F0c.drop 1325).take 8 = w_str (st_tm 43) [122, 101, 114, 111] := by decide +kernel
theorem xc_43 (hF : ∀ c ∈ F0c, c.before #[.ref b] s = true) : qq_xc s.heap.size (st_ad b s) (st_ad b s 43) (qq_xt 43) s s.heap ∧ qq_xc s.heap.size (st_ad b s) (st_ad b s 53) (qq_xt 53) s s.heap ∧ (st_tm 43).eval #[.ref b] s none [] s = some (.ref (st_ad b s 43)) := st_str hF (byt := [122, 101, 114, 111]) (by decide) sf_43 rfl
theorem sf_44 : (F0c.drop 1334).take 12 = w_str (st_tm 44) [113, 117, 97, 114, 116, 101, 114, 32] := by decide +kernel
theorem xc_44 (hF : ∀ c ∈ F0c, c.before #[.ref b] s = true) : qq_xc s.heap.size (st_ad b s) (st_ad b s 44) (qq_xt 44) s s.heap ∧ qq_xc s.heap.size (st_ad b s) (st_ad b s 54) (qq_xt 54) s s.heap ∧ (st_tm 44).eval #[.ref b] s none [] s = some (.ref (st_ad b s 44)) := st_str hF (byt := [113, 117, 97, 114, 116, 101, 114, 32]) (by decide) sf_44 rfl
theorem sf_45 : (F0c.drop 1346).take 10 = w_str (st_tm 45) [112, 111, 119, 101, 114, 32] := by decide +kernel
theorem xc_45 (hF : ∀ c ∈ F0c, c.before #[.ref b] s = true) : qq_xc s.heap.size (st_ad b s) (st_ad b s 45) (qq_xt 45) s s.heap ∧ qq_xc s.heap.size (st_ad b s) (st_ad b s 55) (qq_xt 55) s s.heap ∧ (st_tm 45).eval #[.ref b] s none [] s = some (.ref (st_ad b s 45)) := st_str hF (byt := [112, 111, 119, 101, 114, 32]) (by decide) sf_45 rfl
theorem sf_46 : (F0c.drop 1356).take 13 = w_str (st_tm 46) [108, 101, 115, 115, 101, 110, 101, 100, 32] := by decide +kernel
theorem xc_46 (hF : ∀ c ∈ F0c, c.before #[.ref b] s = true) : qq_xc s.heap.size (st_ad b s) (st_ad b s 46) (qq_xt 46) s s.heap ∧ qq_xc s.heap.size (st_ad b s) (st_ad b s 56) (qq_xt 56) s s.heap ∧ (st_tm 46).eval #[.ref b] s none [] s = some (.ref (st_ad b s 46)) := st_str hF (byt := [108, 101, 115, 115, 101, 110, 101, 100, 32]) (by decide) sf_46 rfl
theorem sf_47 : (F0c.drop 1369).take 11 = w_str (st_tm 47) [108, 111, 103, 103, 101, 100, 32] := by decide +kernel
theorem xc_47 (hF : ∀ c ∈ F0c, c.before #[.ref b] s = true) : qq_xc s.heap.size (st_ad b s) (st_ad b s 47) (qq_xt 47) s s.heap ∧ qq_xc s.heap.size (st_ad b s) (st_ad b s 57) (qq_xt 57) s s.heap ∧ (st_tm 47).eval #[.ref b] s none [] s = some (.ref (st_ad b s 47)) := st_str hF (byt := [108, 111, 103, 103, 101, 100, 32]) (by decide) sf_47 rfl
theorem sf_48 : (F0c.drop 1380).take 9 = w_str (st_tm 48) [98, 97, 99, 107, 32] := by decide +kernel
theorem xc_48 (hF : ∀ c ∈ F0c, c.before #[.ref b] s = true) : qq_xc s.heap.size (st_ad b s) (st_ad b s 48) (qq_xt 48) s s.heap ∧ qq_xc s.heap.size (st_ad b s) (st_ad b s 58) (qq_xt 58) s s.heap ∧ (st_tm 48).eval #[.ref b] s none [] s = some (.ref (st_ad b s 48)) := st_str hF (byt := [98, 97, 99, 107, 32]) (by decide) sf_48 rfl
theorem sf_49 : (F0c.drop 1389).take 10 = w_str (st_tm 49) [102, 111, 114, 116, 104, 32] := by decide +kernel
theorem xc_49 (hF : ∀ c ∈ F0c, c.before #[.ref b] s = true) : qq_xc s.heap.size (st_ad b s) (st_ad b s 49) (qq_xt 49) s s.heap ∧ qq_xc s.heap.size (st_ad b s) (st_ad b s 59) (qq_xt 59) s s.heap ∧ (st_tm 49).eval #[.ref b] s none [] s = some (.ref (st_ad b s 49)) := st_str hF (byt := [102, 111, 114, 116, 104, 32]) (by decide) sf_49 rfl
def st_nm : Nat → Term
  | 0 => st_tm 44
  | 1 => st_tm 40
  | 2 => st_tm 45
  | 3 => st_tm 46
  | 4 => st_tm 47
  | 5 => st_tm 48
  | 6 => st_tm 49
  | _ => .arg 0
theorem sf_6 : (F0c.drop 999).take 9 = w_row (st_tm 6) (.object "java/lang/String") 7 st_nm := by decide +kernel
theorem xc_6 (hF : ∀ c ∈ F0c, c.before #[.ref b] s = true) : qq_xc s.heap.size (st_ad b s) (st_ad b s 6) (qq_xt 6) s s.heap ∧ (st_tm 6).eval #[.ref b] s none [] s = some (.ref (st_ad b s 6)) := by
  have hv : ∀ (t : Term) (j : Nat), j < 7 → (Cond.eq t (st_nm j)).before #[.ref b] s = true → t.eval #[.ref b] s none [] s = some (va_rf ((t_nm j).map (st_ad b s))) := by
    intro t j hj h
    match j, hj, h with
    | 0, _, h => exact va_eqv h (xc_44 hF).2.2
    | 1, _, h => exact va_eqv h (xc_40 hF).2.2
    | 2, _, h => exact va_eqv h (xc_45 hF).2.2
    | 3, _, h => exact va_eqv h (xc_46 hF).2.2
    | 4, _, h => exact va_eqv h (xc_47 hF).2.2
    | 5, _, h => exact va_eqv h (xc_48 hF).2.2
    | 6, _, h => exact va_eqv h (xc_49 hF).2.2
    | j + 7, hj, _ => exact absurd hj (by omega)
  obtain ⟨t, e1, e2⟩ := st_row (f := fun j => va_rf ((t_nm j).map (st_ad b s))) hF sf_6 (by decide) hv
  have e := st_ade (k := 6) e1
  refine ⟨?_, by rw [e]; exact e1⟩
  show va_T (.object "java/lang/String") (st_ad b s 6) 7 (fun j => va_rf ((t_nm j).map (st_ad b s))) (qq_A s.heap.size) s s.heap
  rw [e]
  exact e2
theorem st_all (hF : ∀ c ∈ F0c, c.before #[.ref b] s = true) (k : Nat) : qq_xc s.heap.size (st_ad b s) (st_ad b s k) (qq_xt k) s s.heap := by
  rw [qq_xt.eq_def]
  split
  · exact (xc_1 hF).1
  · exact (xc_2 hF).1
  · exact (xc_3 hF).1
  · exact (xc_4 hF).1
  · exact (xc_5 hF).1
  · exact (xc_6 hF).1
  · exact (xc_7 hF).1
  · exact (xc_8 hF).1
  · exact (xc_20 hF).1
  · exact (xc_20 hF).2.1
  · exact (xc_21 hF).1
  · exact (xc_21 hF).2.1
  · exact (xc_22 hF).1
  · exact (xc_22 hF).2.1
  · exact (xc_23 hF).1
  · exact (xc_23 hF).2.1
  · exact (xc_24 hF).1
  · exact (xc_24 hF).2.1
  · exact (xc_25 hF).1
  · exact (xc_25 hF).2.1
  · exact (xc_26 hF).1
  · exact (xc_26 hF).2.1
  · exact (xc_27 hF).1
  · exact (xc_27 hF).2.1
  · exact (xc_28 hF).1
  · exact (xc_28 hF).2.1
  · exact (xc_29 hF).1
  · exact (xc_29 hF).2.1
  · exact (xc_40 hF).1
  · exact (xc_40 hF).2.1
  · exact (xc_41 hF).1
  · exact (xc_41 hF).2.1
  · exact (xc_42 hF).1
  · exact (xc_42 hF).2.1
  · exact (xc_43 hF).1
  · exact (xc_43 hF).2.1
  · exact (xc_44 hF).1
  · exact (xc_44 hF).2.1
  · exact (xc_45 hF).1
  · exact (xc_45 hF).2.1
  · exact (xc_46 hF).1
  · exact (xc_46 hF).2.1
  · exact (xc_47 hF).1
  · exact (xc_47 hF).2.1
  · exact (xc_48 hF).1
  · exact (xc_48 hF).2.1
  · exact (xc_49 hF).1
  · exact (xc_49 hF).2.1
  · exact st_dead
theorem st_wc (k : Nat) : qq_wc 80 (qq_xt k) := by
  rw [qq_xt.eq_def]
  split
  · exact trivial
  · exact trivial
  · exact trivial
  · exact trivial
  · exact trivial
  · exact fun j r h => st_n6 h
  · exact trivial
  · exact trivial
  · exact st_w2 (by decide)
  · exact trivial
  · exact st_w2 (by decide)
  · exact trivial
  · exact st_w2 (by decide)
  · exact trivial
  · exact st_w2 (by decide)
  · exact trivial
  · exact st_w2 (by decide)
  · exact trivial
  · exact st_w2 (by decide)
  · exact trivial
  · exact st_w2 (by decide)
  · exact trivial
  · exact st_w2 (by decide)
  · exact trivial
  · exact st_w2 (by decide)
  · exact trivial
  · exact st_w2 (by decide)
  · exact trivial
  · exact st_w2 (by decide)
  · exact trivial
  · exact st_w2 (by decide)
  · exact trivial
  · exact st_w2 (by decide)
  · exact trivial
  · exact st_w2 (by decide)
  · exact trivial
  · exact st_w2 (by decide)
  · exact trivial
  · exact st_w2 (by decide)
  · exact trivial
  · exact st_w2 (by decide)
  · exact trivial
  · exact st_w2 (by decide)
  · exact trivial
  · exact st_w2 (by decide)
  · exact trivial
  · exact st_w2 (by decide)
  · exact trivial
  · exact fun v hv => nomatch hv
theorem st_whp (L : Nat) (xs : Nat → Int32) (k : Nat) : qq_wc 80 ((st_hp L xs).2 k) := by
  by_cases h0 : k = 0
  · subst h0
    exact trivial
  · have e : (st_hp L xs).2 k = qq_xt k := if_neg h0
    rw [e]
    exact st_wc k
theorem st_sf (hF : ∀ c ∈ F0c, c.before #[.ref b] s = true) (hts : ∀ w ∈ lw_tbl, w.before #[.ref b] s = true) : ∀ q ∈ qq_sf, va_Z q.1 q.2.1 q.2.2.1 (qq_mv (st_ad b s) q.2.2.2) (qq_A s.heap.size) s s.heap :=
  List.forall_mem_cons.mpr ⟨va_Zref (show (Cond.laysStatic "Quarterpowers$Rows" "POWERS" "[J").before #[.ref b] s = true from hts _ (lwI_1_3 _ (List.mem_of_getElem? (i := 11) rfl))) (show (Cond.initialized "Quarterpowers$Rows").before #[.ref b] s = true from hts _ (lwI_1_0 _ (List.mem_of_getElem? (i := 4) rfl))) (xc_1 hF).2 st_hA, List.forall_mem_cons.mpr ⟨va_Zref (show (Cond.laysStatic "Quarterpowers$Rows" "LESSENED" "[J").before #[.ref b] s = true from hts _ (lwI_1_4 _ (List.mem_of_getElem? (i := 0) rfl))) (show (Cond.initialized "Quarterpowers$Rows").before #[.ref b] s = true from hts _ (lwI_1_0 _ (List.mem_of_getElem? (i := 4) rfl))) (xc_2 hF).2 st_hA, List.forall_mem_cons.mpr ⟨va_Zref (show (Cond.laysStatic "Quarterpowers$Rows" "LOGGED" "[J").before #[.ref b] s = true from hts _ (lwI_1_4 _ (List.mem_of_getElem? (i := 2) rfl))) (show (Cond.initialized "Quarterpowers$Rows").before #[.ref b] s = true from hts _ (lwI_1_0 _ (List.mem_of_getElem? (i := 4) rfl))) (xc_3 hF).2 st_hA, List.forall_mem_cons.mpr ⟨va_Zref (show (Cond.laysStatic "QuarterpowersModel" "LEAST" "[I").before #[.ref b] s = true from hts _ (lwI_6_1 _ (List.mem_of_getElem? (i := 1) rfl))) (show (Cond.initialized "QuarterpowersModel").before #[.ref b] s = true from hts _ (lwI_1_0 _ (List.mem_of_getElem? (i := 5) rfl))) (xc_4 hF).2 st_hA, List.forall_mem_cons.mpr ⟨va_Zref (show (Cond.laysStatic "QuarterpowersModel" "GREATEST" "[I").before #[.ref b] s = true from hts _ (lwI_6_1 _ (List.mem_of_getElem? (i := 3) rfl))) (show (Cond.initialized "QuarterpowersModel").before #[.ref b] s = true from hts _ (lwI_1_0 _ (List.mem_of_getElem? (i := 5) rfl))) (xc_5 hF).2 st_hA, List.forall_mem_cons.mpr ⟨va_Zref (show (Cond.laysStatic "QuarterpowersModel" "NAMES" "[Ljava/lang/String;").before #[.ref b] s = true from hts _ (lwI_6_10 _ (List.mem_of_getElem? (i := 11) rfl))) (show (Cond.initialized "QuarterpowersModel").before #[.ref b] s = true from hts _ (lwI_1_0 _ (List.mem_of_getElem? (i := 5) rfl))) (xc_6 hF).2 st_hA, List.forall_mem_cons.mpr ⟨va_Zref (show (Cond.laysStatic "java/lang/Integer" "DigitOnes" "[B").before #[.ref b] s = true from hts _ (lwI_4_8 _ (List.mem_of_getElem? (i := 7) rfl))) (show (Cond.initialized "java/lang/Integer").before #[.ref b] s = true from hts _ (lwI_1_0 _ (List.mem_of_getElem? (i := 15) rfl))) (xc_7 hF).2 st_hA, List.forall_mem_cons.mpr ⟨va_Zref (show (Cond.laysStatic "java/lang/Integer" "DigitTens" "[B").before #[.ref b] s = true from hts _ (lwI_4_8 _ (List.mem_of_getElem? (i := 9) rfl))) (show (Cond.initialized "java/lang/Integer").before #[.ref b] s = true from hts _ (lwI_1_0 _ (List.mem_of_getElem? (i := 15) rfl))) (xc_8 hF).2 st_hA, List.forall_mem_cons.mpr ⟨va_Zof (show (Cond.laysStatic "java/lang/String" "COMPACT_STRINGS" "Z").before #[.ref b] s = true from hts _ (lwI_3_11 _ (List.mem_of_getElem? (i := 1) rfl))) (show (Cond.initialized "java/lang/String").before #[.ref b] s = true from hts _ (lwI_1_1 _ (List.mem_of_getElem? (i := 4) rfl))) (va_eqt (hF _ (List.mem_of_getElem? (i := 773) (by decide +kernel)))) st_hA, fun q hq => nomatch hq⟩⟩⟩⟩⟩⟩⟩⟩⟩
theorem st_st (hF : ∀ c ∈ F0c, c.before #[.ref b] s = true) (hts : ∀ w ∈ lw_tbl, w.before #[.ref b] s = true) : ∀ q ∈ qq_st, vk_R q.1 q.2.1 q.2.2.1 (st_ad b s q.2.2.2) s :=
  List.forall_mem_cons.mpr ⟨st_vk (k := 10) (show (Cond.stringRef "Quarterpowers" 282 "a cell is 0 to 7").before #[.ref b] s = true from hts _ (lwI_1_14 _ (List.mem_of_getElem? (i := 12) rfl))) (hF _ (List.mem_of_getElem? (i := 1029) (by decide +kernel))) rfl, List.forall_mem_cons.mpr ⟨st_vk (k := 11) (show (Cond.stringRef "Quarterpowers" 290 "it has no HEIGHT").before #[.ref b] s = true from hts _ (lwI_2_3 _ (List.mem_of_getElem? (i := 10) rfl))) (hF _ (List.mem_of_getElem? (i := 1049) (by decide +kernel))) rfl, List.forall_mem_cons.mpr ⟨st_vk (k := 12) (show (Cond.stringRef "Quarterpowers" 292 "its 64 digits are not told").before #[.ref b] s = true from hts _ (lwI_2_5 _ (List.mem_of_getElem? (i := 12) rfl))) (hF _ (List.mem_of_getElem? (i := 1069) (by decide +kernel))) rfl, List.forall_mem_cons.mpr ⟨st_vk (k := 13) (show (Cond.stringRef "Quarterpowers" 287 "out of its range").before #[.ref b] s = true from hts _ (lwI_2_7 _ (List.mem_of_getElem? (i := 12) rfl))) (hF _ (List.mem_of_getElem? (i := 1099) (by decide +kernel))) rfl, List.forall_mem_cons.mpr ⟨st_vk (k := 14) (show (Cond.stringRef "Quarterpowers" 104 "no WHOLE is told of this KIND").before #[.ref b] s = true from hts _ (lwI_3_8 _ (List.mem_of_getElem? (i := 1) rfl))) (hF _ (List.mem_of_getElem? (i := 1119) (by decide +kernel))) rfl, List.forall_mem_cons.mpr ⟨st_vk (k := 15) (show (Cond.stringRef "Quarterpowers" 300 "the WHOLE has more than 32 bits").before #[.ref b] s = true from hts _ (lwI_3_8 _ (List.mem_of_getElem? (i := 12) rfl))) (hF _ (List.mem_of_getElem? (i := 1152) (by decide +kernel))) rfl, List.forall_mem_cons.mpr ⟨st_vk (k := 20) (show (Cond.stringRef "Quarterpowers$Num" 40 "-").before #[.ref b] s = true from hts _ (lwI_3_12 _ (List.mem_of_getElem? (i := 6) rfl))) (hF _ (st_mem sf_20 List.mem_cons_self)) rfl, List.forall_mem_cons.mpr ⟨st_vk (k := 21) (show (Cond.stringRef "Quarterpowers$Num" 42 "").before #[.ref b] s = true from hts _ (lwI_3_12 _ (List.mem_of_getElem? (i := 7) rfl))) (hF _ (st_mem sf_21 List.mem_cons_self)) rfl, List.forall_mem_cons.mpr ⟨st_vk (k := 22) (show (Cond.stringRef "Quarterpowers$Num" 48 "zero").before #[.ref b] s = true from hts _ (lwI_4_5 _ (List.mem_of_getElem? (i := 0) rfl))) (hF _ (st_mem sf_22 List.mem_cons_self)) rfl, List.forall_mem_cons.mpr ⟨st_vk (k := 23) (show (Cond.stringRef "Quarterpowers$Num" 50 "endless").before #[.ref b] s = true from hts _ (lwI_4_5 _ (List.mem_of_getElem? (i := 1) rfl))) (hF _ (st_mem sf_23 List.mem_cons_self)) rfl, List.forall_mem_cons.mpr ⟨st_vk (k := 24) (show (Cond.stringRef "Quarterpowers$Num" 66 "power").before #[.ref b] s = true from hts _ (lwI_4_11 _ (List.mem_of_getElem? (i := 1) rfl))) (hF _ (st_mem sf_24 List.mem_cons_self)) rfl, List.forall_mem_cons.mpr ⟨st_vk (k := 25) (show (Cond.stringRef "Quarterpowers$Num" 68 "lessened").before #[.ref b] s = true from hts _ (lwI_4_11 _ (List.mem_of_getElem? (i := 2) rfl))) (hF _ (st_mem sf_25 List.mem_cons_self)) rfl, List.forall_mem_cons.mpr ⟨st_vk (k := 26) (show (Cond.stringRef "Quarterpowers$Num" 70 "logged").before #[.ref b] s = true from hts _ (lwI_4_11 _ (List.mem_of_getElem? (i := 3) rfl))) (hF _ (st_mem sf_26 List.mem_cons_self)) rfl, List.forall_mem_cons.mpr ⟨st_vk (k := 27) (show (Cond.stringRef "Quarterpowers$Num" 72 "back").before #[.ref b] s = true from hts _ (lwI_4_11 _ (List.mem_of_getElem? (i := 4) rfl))) (hF _ (st_mem sf_27 List.mem_cons_self)) rfl, List.forall_mem_cons.mpr ⟨st_vk (k := 28) (show (Cond.stringRef "Quarterpowers$Num" 74 "forth").before #[.ref b] s = true from hts _ (lwI_4_11 _ (List.mem_of_getElem? (i := 5) rfl))) (hF _ (st_mem sf_28 List.mem_cons_self)) rfl, List.forall_mem_cons.mpr ⟨st_vk (k := 29) (show (Cond.stringRef "Quarterpowers$Num" 76 "quarter").before #[.ref b] s = true from hts _ (lwI_4_11 _ (List.mem_of_getElem? (i := 6) rfl))) (hF _ (st_mem sf_29 List.mem_cons_self)) rfl, List.forall_mem_cons.mpr ⟨st_vk (k := 16) (show (Cond.stringRef "Quarterpowers" 294 "they are not NEAR").before #[.ref b] s = true from hts _ (lwI_4_14 _ (List.mem_of_getElem? (i := 11) rfl))) (hF _ (List.mem_of_getElem? (i := 1281) (by decide +kernel))) rfl, List.forall_mem_cons.mpr ⟨st_vk (k := 40) (show (Cond.stringRef "QuarterpowersModel" 210 "").before #[.ref b] s = true from hts _ (lwI_6_10 _ (List.mem_of_getElem? (i := 2) rfl))) (hF _ (st_mem sf_40 List.mem_cons_self)) rfl, List.forall_mem_cons.mpr ⟨st_vk (k := 41) (show (Cond.stringRef "QuarterpowersModel" 212 "-").before #[.ref b] s = true from hts _ (lwI_6_10 _ (List.mem_of_getElem? (i := 3) rfl))) (hF _ (st_mem sf_41 List.mem_cons_self)) rfl, List.forall_mem_cons.mpr ⟨st_vk (k := 42) (show (Cond.stringRef "QuarterpowersModel" 221 "endless").before #[.ref b] s = true from hts _ (lwI_6_10 _ (List.mem_of_getElem? (i := 7) rfl))) (hF _ (st_mem sf_42 List.mem_cons_self)) rfl, List.forall_mem_cons.mpr ⟨st_vk (k := 43) (show (Cond.stringRef "QuarterpowersModel" 227 "zero").before #[.ref b] s = true from hts _ (lwI_6_10 _ (List.mem_of_getElem? (i := 9) rfl))) (hF _ (st_mem sf_43 List.mem_cons_self)) rfl, List.forall_mem_cons.mpr ⟨st_vk (k := 44) (show (Cond.stringRef "QuarterpowersModel" 312 "quarter ").before #[.ref b] s = true from hts _ (lwI_7_4 _ (List.mem_of_getElem? (i := 8) rfl))) (hF _ (st_mem sf_44 List.mem_cons_self)) rfl, List.forall_mem_cons.mpr ⟨st_vk (k := 45) (show (Cond.stringRef "QuarterpowersModel" 314 "power ").before #[.ref b] s = true from hts _ (lwI_7_4 _ (List.mem_of_getElem? (i := 9) rfl))) (hF _ (st_mem sf_45 List.mem_cons_self)) rfl, List.forall_mem_cons.mpr ⟨st_vk (k := 46) (show (Cond.stringRef "QuarterpowersModel" 316 "lessened ").before #[.ref b] s = true from hts _ (lwI_7_4 _ (List.mem_of_getElem? (i := 10) rfl))) (hF _ (st_mem sf_46 List.mem_cons_self)) rfl, List.forall_mem_cons.mpr ⟨st_vk (k := 47) (show (Cond.stringRef "QuarterpowersModel" 318 "logged ").before #[.ref b] s = true from hts _ (lwI_7_4 _ (List.mem_of_getElem? (i := 11) rfl))) (hF _ (st_mem sf_47 List.mem_cons_self)) rfl, List.forall_mem_cons.mpr ⟨st_vk (k := 48) (show (Cond.stringRef "QuarterpowersModel" 320 "back ").before #[.ref b] s = true from hts _ (lwI_7_4 _ (List.mem_of_getElem? (i := 12) rfl))) (hF _ (st_mem sf_48 List.mem_cons_self)) rfl, List.forall_mem_cons.mpr ⟨st_vk (k := 49) (show (Cond.stringRef "QuarterpowersModel" 322 "forth ").before #[.ref b] s = true from hts _ (lwI_7_4 _ (List.mem_of_getElem? (i := 13) rfl))) (hF _ (st_mem sf_49 List.mem_cons_self)) rfl, fun q hq => nomatch hq⟩⟩⟩⟩⟩⟩⟩⟩⟩⟩⟩⟩⟩⟩⟩⟩⟩⟩⟩⟩⟩⟩⟩⟩⟩⟩⟩
theorem st_ok (hF : ∀ c ∈ F0c, c.before #[.ref b] s = true) (hts : ∀ w ∈ lw_tbl, w.before #[.ref b] s = true) : qq_ok s := by
  refine ⟨List.forall_mem_cons.mpr ⟨va_Nc.of (hF _ (List.mem_of_getElem? (i := 1011) (by decide +kernel))), List.forall_mem_cons.mpr ⟨va_Nc.of (hF _ (List.mem_of_getElem? (i := 1012) (by decide +kernel))), List.forall_mem_cons.mpr ⟨va_Nc.of (hF _ (List.mem_of_getElem? (i := 1019) (by decide +kernel))), fun q hq => nomatch hq⟩⟩⟩, fun w hw => ?_, ?_⟩
  · have h1 := qq_xwf w hw
    have h2 := hts w (st_xw w hw)
    cases w <;> first | exact h2 | cases h1
  · have h := hts _ (List.mem_of_getElem? (l := lw_tbl) (i := 1104) (a := .arrayOver (.array .int)) (by decide +kernel))
    exact h
theorem st_XX {L : Nat} {xs : Nat → Int32} (hF : ∀ c ∈ F0c, c.before #[.ref b] s = true) (hts : ∀ w ∈ lw_tbl, w.before #[.ref b] s = true) (hX : va_X b L xs s s.heap) (hL : L ≤ 256) : qq_XX s.heap.size (st_ad b s) (st_hp L xs) s s.heap := by
  refine ⟨fun k hk => ?_, st_sf hF hts, st_st hF hts, vx_Zqof (show (Cond.laysStatic "java/lang/Throwable" "UNASSIGNED_STACK" "[Ljava/lang/StackTraceElement;").before #[.ref b] s = true from hts _ (lwI_1_13 _ (List.mem_of_getElem? (i := 14) rfl))) (show (Cond.initialized "java/lang/Throwable").before #[.ref b] s = true from hts _ (lwI_1_0 _ (List.mem_of_getElem? (i := 8) rfl))) (hF _ (List.mem_of_getElem? (i := 771) (by decide +kernel))) st_hA, vx_Zqof (show (Cond.laysStatic "java/lang/Throwable" "SUPPRESSED_SENTINEL" "Ljava/util/List;").before #[.ref b] s = true from hts _ (lwI_1_14 _ (List.mem_of_getElem? (i := 0) rfl))) (show (Cond.initialized "java/lang/Throwable").before #[.ref b] s = true from hts _ (lwI_1_0 _ (List.mem_of_getElem? (i := 8) rfl))) (hF _ (List.mem_of_getElem? (i := 772) (by decide +kernel))) st_hA, Nat.le_refl _, st_ok hF hts⟩
  by_cases h0 : k = 0
  · subst h0
    exact st_scr hX hL
  · have e : (st_hp L xs).2 k = qq_xt k := if_neg h0
    rw [e]
    exact st_all hF k
theorem st_gd (hts : ∀ w ∈ lw_tbl, w.before #[.ref b] s = true) : ∀ w ∈ lw_gd, w.before #[.ref b] s = true := by
  have h : ∀ w ∈ qq_sel, w.before #[.ref b] s = true := List.forall_mem_cons.mpr ⟨st_sel (y := yJ5_ensureCapacityInternal_d00df) (y' := ⟨"java/lang/AbstractStringBuilder", "isLatin1", "()Z"⟩) ⟨by decide +kernel, by decide +kernel⟩ rfl (hts _ (lwI_4_0 _ (List.mem_of_getElem? (i := 9) rfl))) (hts _ (lwI_3_13 _ (List.mem_of_getElem? (i := 4) rfl))) (hts _ (lwI_3_13 _ (List.mem_of_getElem? (i := 5) rfl))), List.forall_mem_cons.mpr ⟨st_sel (y := yJ5_putStringAt_47b60) (y' := ⟨"java/lang/AbstractStringBuilder", "isLatin1", "()Z"⟩) ⟨by decide +kernel, by decide +kernel⟩ rfl (hts _ (lwI_4_0 _ (List.mem_of_getElem? (i := 9) rfl))) (hts _ (lwI_4_2 _ (List.mem_of_getElem? (i := 15) rfl))) (hts _ (lwI_4_3 _ (List.mem_of_getElem? (i := 0) rfl))), List.forall_mem_cons.mpr ⟨st_sel (y := yJ5_inflateIfNeededFor_a7421) (y' := ⟨"java/lang/AbstractStringBuilder", "isLatin1", "()Z"⟩) ⟨by decide +kernel, by decide +kernel⟩ rfl (hts _ (lwI_4_0 _ (List.mem_of_getElem? (i := 9) rfl))) (hts _ (lwI_4_3 _ (List.mem_of_getElem? (i := 3) rfl))) (hts _ (lwI_4_3 _ (List.mem_of_getElem? (i := 4) rfl))), fun q hq => nomatch hq⟩⟩⟩
  intro w hw
  rcases List.mem_append.mp hw with h1 | h1
  · exact h w h1
  · exact hts w (List.mem_filter.mp h1).1
theorem st_K (hts : ∀ w ∈ lw_tbl, w.before #[.ref b] s = true) : ∃ D : qq_D, va_K D.1 vwCl (qq_tys D.2) s := by
  obtain ⟨c0, s0, k0⟩ := u_known (C := RJ0) (T := TJ0) (N := 4) (n := 4) (st_gd hts) ku_J0 (hts _ (lwI_4_5 _ (List.mem_of_getElem? (i := 7) rfl)))
  obtain ⟨c1, s1, k1⟩ := u_known (C := RJ4) (T := TJ4) (N := 4) (n := 4) (st_gd hts) ku_J4 (hts _ (lwI_3_10 _ (List.mem_of_getElem? (i := 8) rfl)))
  obtain ⟨c2, s2, k2⟩ := u_known (C := RX5) (T := TX5) (N := 6) (n := 6) (st_gd hts) ku_X5 (hts _ (lwI_1_1 _ (List.mem_of_getElem? (i := 12) rfl)))
  obtain ⟨c3, s3, k3⟩ := u_known (C := RX6) (T := TX6) (N := 2) (n := 2) (st_gd hts) ku_X6 (hts _ (lwI_2_10 _ (List.mem_of_getElem? (i := 1) rfl)))
  obtain ⟨c4, s4, k4⟩ := u_known (C := RX7) (T := TX7) (N := 11) (n := 11) (st_gd hts) ku_X7 (hts _ (lwI_5_6 _ (List.mem_of_getElem? (i := 2) rfl)))
  obtain ⟨a0, b0⟩ := st_arr (ty := .int) (hts _ (lwI_1_5 _ (List.mem_of_getElem? (i := 11) rfl))) (fun _ h => nomatch h)
  obtain ⟨a1, b1⟩ := st_arr (ty := .long) (hts _ (lwI_1_5 _ (List.mem_of_getElem? (i := 12) rfl))) (fun _ h => nomatch h)
  obtain ⟨a2, b2⟩ := st_arr (ty := .boolean) (hts _ (lwI_5_10 _ (List.mem_of_getElem? (i := 11) rfl))) (fun _ h => nomatch h)
  obtain ⟨a3, b3⟩ := st_arr (ty := .byte) (hts _ (lwI_2_1 _ (List.mem_of_getElem? (i := 6) rfl))) (fun _ h => nomatch h)
  obtain ⟨a4, b4⟩ := st_arr4 (hts _ (List.mem_of_getElem? (l := lw_tbl) (i := 1104) (a := .arrayOver (.array .int)) (by decide +kernel)))
  refine ⟨((fun k => if k = 0 then c0 else if k = 1 then c1 else if k = 2 then c2 else if k = 3 then c3 else c4, fun k => if k = 0 then s0 else if k = 1 then s1 else if k = 2 then s2 else if k = 3 then s3 else s4), fun k => if k = 0 then a0 else if k = 1 then a1 else if k = 2 then a2 else if k = 3 then a3 else a4), fun k q hq => ?_, fun k q hq => ?_⟩
  · match k, hq with
    | 0, hq => cases hq; exact k0
    | 1, hq => cases hq; exact k1
    | 2, hq => cases hq; exact k2
    | 3, hq => cases hq; exact k3
    | 4, hq => cases hq; exact k4
    | k + 5, hq => simp [vwCl] at hq
  · match k, hq with
    | 0, hq => cases hq; exact b0
    | 1, hq => cases hq; exact b1
    | 2, hq => cases hq; exact b2
    | 3, hq => cases hq; exact b3
    | 4, hq => cases hq; exact b4
    | k + 5, hq => simp [qq_tys] at hq
end ST
