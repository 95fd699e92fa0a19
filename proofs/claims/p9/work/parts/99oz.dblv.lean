/-! doubles: a product, or a quotient, by twos, none of them a NaN -/
def okd (x : UInt64) : Bool := decide (x &&& 0x7fffffffffffffff ≤ 0x7ff0000000000000)
theorem okd_n {x : UInt64} (h : okd x = true) : vf_n64 x := by
  unfold okd at h
  exact (of_decide_eq_true h : x &&& 0x7fffffffffffffff ≤ 0x7ff0000000000000)
def as_m (n : Int32) : Nat → UInt64 → Int32 → Option UInt64
  | 0, _, _ => none
  | fu + 1, d, i => if n ≤ i then some d else if okd (FP.dmul d 4611686018427387904) = true then as_m n fu (FP.dmul d 4611686018427387904) (i + 1) else none
def as_d (n : Int32) : Nat → UInt64 → Int32 → Option UInt64
  | 0, _, _ => none
  | fu + 1, d, i => if -n ≤ i then some d else if okd (FP.ddiv d 4611686018427387904) = true then as_d n fu (FP.ddiv d 4611686018427387904) (i + 1) else none
def f_asD (w : Int64) : Option UInt64 := (as_m (f_X1_exponentOf w - 1075) 20 (FP.l2d (f_X1_mantissaOf w)) 0).bind fun d => as_d (f_X1_exponentOf w - 1075) 130 d 0
def f_sfo (x : UInt64) : Option UInt64 := if okd (FP.dsub x FP.dconst1) = true then if Op.cmpValue (FP.dcmp (FP.dsub x FP.dconst1) FP.dconst0) .l < 0 then (if okd (FP.dmul (FP.dneg (FP.dsub x FP.dconst1)) 4845873199050653696) = true then some (FP.dmul (FP.dneg (FP.dsub x FP.dconst1)) 4845873199050653696) else none) else (if okd (FP.dmul (FP.dsub x FP.dconst1) 4841369599423283200) = true then some (FP.dmul (FP.dsub x FP.dconst1) 4841369599423283200) else none) else none
def op_a (q : Int32) : UInt64 := (f_X4_digitsAt 1 q).toUInt64
def op_r (q : Int32) : UInt64 := (f_sfo (FP.dmul (op_a q) (op_a (-q)))).getD 0
def opA (q : Int32) : Bool := f_asD (f_X4_digitsAt 1 q) == some (op_a q)
def opB (q : Int32) : Bool := okd (FP.dmul (op_a q) (op_a (-q))) && (f_sfo (FP.dmul (op_a q) (op_a (-q))) == some (op_r q)) && decide (Op.cmpValue (FP.dcmp (op_r q) 4611686018427387904) .g ≤ 0)
def opP (q : Int32) : Bool := (f_asD (f_X4_digitsAt 1 q) == some (op_a q)) && (f_asD (f_X4_digitsAt 1 (-q)) == some (op_a (-q))) && okd (FP.dmul (op_a q) (op_a (-q))) && (f_sfo (FP.dmul (op_a q) (op_a (-q))) == some (op_r q)) && decide (Op.cmpValue (FP.dcmp (op_r q) 4611686018427387904) .g ≤ 0)
theorem opA_0 : (List.range 107).all (fun j => opA (Int32.ofNat (j + 0) - 160)) = true := by decide +kernel
theorem opA_107 : (List.range 107).all (fun j => opA (Int32.ofNat (j + 107) - 160)) = true := by decide +kernel
theorem opA_214 : (List.range 107).all (fun j => opA (Int32.ofNat (j + 214) - 160)) = true := by decide +kernel
theorem opB_0 : (List.range 107).all (fun j => opB (Int32.ofNat (j + 0) - 160)) = true := by decide +kernel
theorem opB_107 : (List.range 107).all (fun j => opB (Int32.ofNat (j + 107) - 160)) = true := by decide +kernel
theorem opB_214 : (List.range 107).all (fun j => opB (Int32.ofNat (j + 214) - 160)) = true := by decide +kernel
theorem op_3 {p : Int32 → Bool} (p0 : (List.range 107).all (fun j => p (Int32.ofNat (j + 0) - 160)) = true) (p1 : (List.range 107).all (fun j => p (Int32.ofNat (j + 107) - 160)) = true) (p2 : (List.range 107).all (fun j => p (Int32.ofNat (j + 214) - 160)) = true) {q : Int32} (h1 : -160 ≤ q.toInt) (h2 : q.toInt ≤ 160) : p q = true := by
  have es : Int32.size = 4294967296 := rfl
  have e4 : (160 : Int32).toInt = 160 := rfl
  have e : Int32.ofNat (q.toInt + 160).toNat - 160 = q := by
    apply Int32.toInt_inj.mp
    have e5 : (Int32.ofNat (q.toInt + 160).toNat).toInt = q.toInt + 160 := by
      rw [Int32.toInt_ofNat', Int.bmod_eq_of_le (by omega) (by omega)]
      omega
    rw [Int32.toInt_sub, e5, e4, Int.bmod_eq_of_le (by omega) (by omega)]
    omega
  rw [← e]
  by_cases a1 : (q.toInt + 160).toNat < 107
  · exact List.all_eq_true.mp p0 (q.toInt + 160).toNat (List.mem_range.mpr a1)
  · by_cases a2 : (q.toInt + 160).toNat < 214
    · have := List.all_eq_true.mp p1 ((q.toInt + 160).toNat - 107) (List.mem_range.mpr (by omega))
      rw [Nat.sub_add_cancel (by omega)] at this
      exact this
    · have := List.all_eq_true.mp p2 ((q.toInt + 160).toNat - 214) (List.mem_range.mpr (by omega))
      rw [Nat.sub_add_cancel (by omega)] at this
      exact this
theorem opP_q {q : Int32} (h1 : -160 ≤ q.toInt) (h2 : q.toInt ≤ 160) : opP q = true := by
  have a := op_3 opA_0 opA_107 opA_214 h1 h2
  have en : (-q).toInt = -q.toInt := by rw [Int32.toInt_neg, Int.bmod_eq_of_le (by omega) (by omega)]
  have b := op_3 opA_0 opA_107 opA_214 (q := -q) (by omega) (by omega)
  have c := op_3 opB_0 opB_107 opB_214 h1 h2
  unfold opA at a b
  unfold opB at c
  simp only [Bool.and_eq_true] at c
  simp only [opP, Bool.and_eq_true]
  exact ⟨⟨⟨⟨a, b⟩, c.1.1⟩, c.1.2⟩, c.2⟩
