theorem hv_n {n : Nat} (h1 : 9007199254740992 ≤ n) (h2 : n < 9218868437227405312) : FP.Core.div FP.Core.b64 n 4611686018427387904 = n - 4503599627370496 := by
  have hT : FP.Core.b64.tails = 4503599627370496 := by decide +kernel
  have hE : FP.Core.b64.exps = 2048 := by decide +kernel
  have hq : FP.Core.b64.qmin = -1074 := by decide +kernel
  have hm : FP.Core.b64.qmax = 971 := by decide +kernel
  have hp : FP.Core.b64.p = 53 := rfl
  have e53 : (2 : Nat) ^ 53 = 9007199254740992 := by decide
  have e52 : (2 : Nat) ^ 52 = 4503599627370496 := by decide
  have d2 : FP.Core.decode FP.Core.b64 4611686018427387904 = .fin false 4503599627370496 (-51) := by decide +kernel
  have fE : FP.Core.fieldE FP.Core.b64 n = n / 4503599627370496 := by
    unfold FP.Core.fieldE
    rw [hT, hE]
    exact Nat.mod_eq_of_lt (by omega)
  have fT : FP.Core.fieldT FP.Core.b64 n = n % 4503599627370496 := by
    unfold FP.Core.fieldT
    rw [hT]
  have fS : FP.Core.fieldS FP.Core.b64 n = false := by
    unfold FP.Core.fieldS
    rw [hT, hE]
    have : n / 4503599627370496 / 2048 % 2 = 0 := by omega
    rw [this]
    rfl
  have d1 : FP.Core.decode FP.Core.b64 n = .fin false (4503599627370496 + n % 4503599627370496) (-1074 + ((n / 4503599627370496 : Nat) - 1 : Int)) := by
    unfold FP.Core.decode
    rw [fE, fT, fS, hT, hE, hq, if_neg (by omega), if_neg (by omega)]
  unfold FP.Core.div
  rw [d1, d2]
  generalize hc : 4503599627370496 + n % 4503599627370496 = c
  generalize hx : n / 4503599627370496 = E
  have c1 : 4503599627370496 ≤ c := by omega
  have c2 : c < 9007199254740992 := by omega
  have x1 : 2 ≤ E := by omega
  have x2 : E ≤ 2046 := by omega
  have lc : c.log2 = 52 := (Nat.log2_eq_iff (by omega)).mpr ⟨by rw [e52]; exact c1, by rw [e53]; exact c2⟩
  have ld : (4503599627370496 : Nat).log2 = 52 := by decide +kernel
  have hl : FP.Core.leading c 4503599627370496 = 0 := by
    unfold FP.Core.leading
    rw [lc, ld]
    show (if 4503599627370496 * 2 ^ (0 : Int).toNat ≤ c * 2 ^ (-(0 : Int)).toNat then (0 : Int) else 0 - 1) = 0
    rw [if_pos (by show 4503599627370496 * 1 ≤ c * 1; omega)]
  have hQ : FP.Core.quantum FP.Core.b64 c 4503599627370496 (-1074 + ((E : Int) - 1) - -51) = (E : Int) - 1076 := by
    unfold FP.Core.quantum
    rw [hl, hq, hp]
    omega
  have hn : FP.Core.nearest (FP.Core.unitsNum c (-1074 + ((E : Int) - 1) - -51) ((E : Int) - 1076)) (FP.Core.unitsDen 4503599627370496 (-1074 + ((E : Int) - 1) - -51) ((E : Int) - 1076)) = c := by
    unfold FP.Core.unitsNum FP.Core.unitsDen
    rw [show (-1074 + ((E : Int) - 1) - -51 - ((E : Int) - 1076)).toNat = 52 by omega, show ((E : Int) - 1076 - (-1074 + ((E : Int) - 1) - -51)).toNat = 0 by omega, Nat.pow_zero, Nat.mul_one, e52]
    unfold FP.Core.nearest
    rw [Nat.mul_mod_left, if_pos (by decide), Nat.mul_div_cancel c (by decide)]
  show FP.Core.encode FP.Core.b64 (if (4503599627370496 : Nat) = 0 then (if c = 0 then FP.Core.Datum.nan else FP.Core.Datum.inf (false != false)) else FP.Core.roundRatio FP.Core.b64 (false != false) c 4503599627370496 (-1074 + ((E : Int) - 1) - -51)) = _
  rw [if_neg (by decide)]
  unfold FP.Core.roundRatio FP.Core.roundAt
  rw [if_neg (by omega), hQ, hn]
  unfold FP.Core.settle
  rw [hp, e53, if_pos c2]
  unfold FP.Core.bound
  rw [hm, if_pos (by omega)]
  show (if c < FP.Core.b64.tails then FP.Core.assemble FP.Core.b64 false 0 c else FP.Core.assemble FP.Core.b64 false (((E : Int) - 1076 - FP.Core.b64.qmin).toNat + 1) (c - FP.Core.b64.tails)) = _
  rw [hT, hq, if_neg (by omega)]
  unfold FP.Core.assemble
  rw [hT, hE, show ((E : Int) - 1076 - -1074).toNat = E - 2 by omega]
  show (0 * 2048 + (E - 2 + 1)) * 4503599627370496 + (c - 4503599627370496) = _
  omega
theorem hv_e {x : UInt64} (h1 : 9007199254740992 ≤ x.toNat) (h2 : x.toNat < 9218868437227405312) : FP.ddiv x 4611686018427387904 = UInt64.ofNat (x.toNat - 4503599627370496) := by
  unfold FP.ddiv FP.Core.ddiv
  rw [show (4611686018427387904 : UInt64).toNat = 4611686018427387904 from rfl, hv_n h1 h2]

/-! doubles: a product, or a quotient, by twos, none of them a NaN -/
def okd (x : UInt64) : Bool := decide (x &&& 0x7fffffffffffffff ≤ 0x7ff0000000000000)
theorem okd_n {x : UInt64} (h : okd x = true) : vf_n64 x := by
  unfold okd at h
  exact (of_decide_eq_true h : x &&& 0x7fffffffffffffff ≤ 0x7ff0000000000000)
def as_m (n : Int32) : Nat → UInt64 → Int32 → Option UInt64
  | 0, _, _ => none
  | fu + 1, d, i => if n ≤ i then some d else if okd (FP.dmul d 4611686018427387904) = true then as_m n fu (FP.dmul d 4611686018427387904) (i + 1) else none
def as_d (n : Int32) : Nat → UInt64 → Int32 → Option UInt64
  | 0, _, _ => none
  | fu + 1, d, i => if -n ≤ i then some d else if okd (FP.ddiv d 4611686018427387904) = true then as_d n fu (FP.ddiv d 4611686018427387904) (i + 1) else none
def f_asD (w : Int64) : Option UInt64 := (as_m (f_X1_exponentOf w - 1075) 20 (FP.l2d (f_X1_mantissaOf w)) 0).bind fun d => as_d (f_X1_exponentOf w - 1075) 130 d 0
def f_sfo (x : UInt64) : Option UInt64 := if okd (FP.dsub x FP.dconst1) = true then if Op.cmpValue (FP.dcmp (FP.dsub x FP.dconst1) FP.dconst0) .l < 0 then (if okd (FP.dmul (FP.dneg (FP.dsub x FP.dconst1)) 4845873199050653696) = true then some (FP.dmul (FP.dneg (FP.dsub x FP.dconst1)) 4845873199050653696) else none) else (if okd (FP.dmul (FP.dsub x FP.dconst1) 4841369599423283200) = true then some (FP.dmul (FP.dsub x FP.dconst1) 4841369599423283200) else none) else none
def op_a (q : Int32) : UInt64 := (f_X4_digitsAt 1 q).toUInt64
def op_r (q : Int32) : UInt64 := (f_sfo (FP.dmul (op_a q) (op_a (-q)))).getD 0
def opA (q : Int32) : Bool := f_asD (f_X4_digitsAt 1 q) == some (op_a q)
def opB (q : Int32) : Bool := okd (FP.dmul (op_a q) (op_a (-q))) && (f_sfo (FP.dmul (op_a q) (op_a (-q))) == some (op_r q)) && decide (Op.cmpValue (FP.dcmp (op_r q) 4611686018427387904) .g ≤ 0)
def opP (q : Int32) : Bool := (f_asD (f_X4_digitsAt 1 q) == some (op_a q)) && (f_asD (f_X4_digitsAt 1 (-q)) == some (op_a (-q))) && okd (FP.dmul (op_a q) (op_a (-q))) && (f_sfo (FP.dmul (op_a q) (op_a (-q))) == some (op_r q)) && decide (Op.cmpValue (FP.dcmp (op_r q) 4611686018427387904) .g ≤ 0)
theorem hv_o {m : Nat} (h : m < 9218868437227405312) : okd (UInt64.ofNat m) = true := by
  unfold okd
  refine decide_eq_true ?_
  rw [UInt64.le_iff_toNat_le, UInt64.toNat_and]
  have e1 : (UInt64.ofNat m).toNat = m := UInt64.toNat_ofNat_of_lt' (show m < 18446744073709551616 by omega)
  have e2 : (0x7ff0000000000000 : UInt64).toNat = 9218868437227405312 := rfl
  rw [e1, e2]
  exact Nat.le_trans Nat.and_le_left (by omega)
theorem as_dh {n : Int32} : ∀ (fu k : Nat) (d : UInt64) (i : Int32), ((-n).toInt - i.toInt).toNat = k → k < fu → (k + 1) * 4503599627370496 ≤ d.toNat → d.toNat < 9218868437227405312 → as_d n fu d i = some (UInt64.ofNat (d.toNat - k * 4503599627370496)) := by
  intro fu
  induction fu with
  | zero => intro k d i _ h; exact absurd h (Nat.not_lt_zero _)
  | succ fu ih =>
    intro k d i hk hf h1 h2
    rw [as_d]
    by_cases c : -n ≤ i
    · rw [if_pos c]
      rw [Int32.le_iff_toInt_le] at c
      have : k = 0 := by omega
      subst this
      rw [Nat.zero_mul, Nat.sub_zero, UInt64.ofNat_toNat]
    · rw [if_neg c]
      have hi := qm_inc c
      rw [Int32.le_iff_toInt_le] at c
      have k1 : 1 ≤ k := by omega
      have h9 : 9007199254740992 ≤ d.toNat := by omega
      have g1 : (k - 1 + 1) * 4503599627370496 ≤ d.toNat - 4503599627370496 := by
        rw [Nat.sub_add_cancel k1]
        exact Nat.le_sub_of_add_le (Nat.le_trans (Nat.le_of_eq (Nat.succ_mul k 4503599627370496).symm) h1)
      have g2 : d.toNat - 4503599627370496 < 9218868437227405312 := by omega
      have g3 : ((-n).toInt - (i + 1).toInt).toNat = k - 1 := by omega
      have g4 : k - 1 < fu := by omega
      have g5 : d.toNat - 4503599627370496 - (k - 1) * 4503599627370496 = d.toNat - k * 4503599627370496 := by omega
      have g6 : d.toNat - 4503599627370496 < 18446744073709551616 := by omega
      have e1 : (UInt64.ofNat (d.toNat - 4503599627370496)).toNat = d.toNat - 4503599627370496 := UInt64.toNat_ofNat_of_lt' g6
      rw [hv_e (x := d) h9 h2, if_pos (hv_o g2), ih (k - 1) _ (i + 1) g3 g4 (Nat.le_trans g1 (Nat.le_of_eq e1.symm)) (Nat.lt_of_le_of_lt (Nat.le_of_eq e1) g2), e1, g5]
def opK (q : Int32) : Nat := (-(f_X1_exponentOf (f_X4_digitsAt 1 q) - 1075)).toInt.toNat
def opD (q : Int32) (k : Nat) : Option UInt64 → Bool
  | none => false
  | some d => Nat.blt k 130 && (Nat.ble ((k + 1) * 4503599627370496) d.toNat && (Nat.blt d.toNat 9218868437227405312 && (UInt64.ofNat (d.toNat - k * 4503599627370496) == op_a q)))
def opC (q : Int32) : Bool := opD q (opK q) (as_m (f_X1_exponentOf (f_X4_digitsAt 1 q) - 1075) 20 (FP.l2d (f_X1_mantissaOf (f_X4_digitsAt 1 q))) 0)
theorem opC_e {q : Int32} (h : opC q = true) : opA q = true := by
  unfold opC at h
  unfold opA f_asD
  generalize as_m (f_X1_exponentOf (f_X4_digitsAt 1 q) - 1075) 20 (FP.l2d (f_X1_mantissaOf (f_X4_digitsAt 1 q))) 0 = o at h ⊢
  match o, h with
  | none, h => exact absurd h Bool.false_ne_true
  | some d, h =>
    simp only [opD, Bool.and_eq_true] at h
    have h1 := Nat.le_of_ble_eq_true h.2.1
    have h2 : d.toNat < 9218868437227405312 := Nat.le_of_ble_eq_true h.2.2.1
    have h0 : opK q < 130 := Nat.le_of_ble_eq_true h.1
    show (as_d _ 130 d 0 == some (op_a q)) = true
    rw [as_dh 130 (opK q) d 0 (by show (_ - (0 : Int)).toNat = _; rw [Int.sub_zero]; rfl) h0 h1 h2, eq_of_beq h.2.2.2]
    exact beq_self_eq_true _
theorem opC_l {n b : Nat} (h : (List.range n).all (fun j => opC (Int32.ofNat (j + b) - 160)) = true) : (List.range n).all (fun j => opA (Int32.ofNat (j + b) - 160)) = true := List.all_eq_true.mpr (fun j hj => opC_e (List.all_eq_true.mp h j hj))

theorem opA_0 : (List.range 107).all (fun j => opA (Int32.ofNat (j + 0) - 160)) = true := opC_l (by decide +kernel)
theorem opA_107 : (List.range 107).all (fun j => opA (Int32.ofNat (j + 107) - 160)) = true := opC_l (by decide +kernel)
theorem opA_214 : (List.range 107).all (fun j => opA (Int32.ofNat (j + 214) - 160)) = true := opC_l (by decide +kernel)
theorem opB_0 : (List.range 107).all (fun j => opB (Int32.ofNat (j + 0) - 160)) = true := by decide +kernel
theorem opB_107 : (List.range 107).all (fun j => opB (Int32.ofNat (j + 107) - 160)) = true := by decide +kernel
theorem opB_214 : (List.range 107).all (fun j => opB (Int32.ofNat (j + 214) - 160)) = true := by decide +kernel
theorem op_3 {p : Int32 → Bool} (p0 : (List.range 107).all (fun j => p (Int32.ofNat (j + 0) - 160)) = true) (p1 : (List.range 107).all (fun j => p (Int32.ofNat (j + 107) - 160)) = true) (p2 : (List.range 107).all (fun j => p (Int32.ofNat (j + 214) - 160)) = true) {q : Int32} (h1 : -160 ≤ q.toInt) (h2 : q.toInt ≤ 160) : p q = true := by
  have es : Int32.size = 4294967296 := rfl
  have e4 : (160 : Int32).toInt = 160 := rfl
  have e : Int32.ofNat (q.toInt + 160).toNat - 160 = q := by
    apply Int32.toInt_inj.mp
    have e5 : (Int32.ofNat (q.toInt + 160).toNat).toInt = q.toInt + 160 := by
      rw [Int32.toInt_ofNat', Int.bmod_eq_of_le (by omega) (by omega)]
      omega
    rw [Int32.toInt_sub, e5, e4, Int.bmod_eq_of_le (by omega) (by omega)]
    omega
  rw [← e]
  by_cases a1 : (q.toInt + 160).toNat < 107
  · exact List.all_eq_true.mp p0 (q.toInt + 160).toNat (List.mem_range.mpr a1)
  · by_cases a2 : (q.toInt + 160).toNat < 214
    · have := List.all_eq_true.mp p1 ((q.toInt + 160).toNat - 107) (List.mem_range.mpr (by omega))
      rw [Nat.sub_add_cancel (by omega)] at this
      exact this
    · have := List.all_eq_true.mp p2 ((q.toInt + 160).toNat - 214) (List.mem_range.mpr (by omega))
      rw [Nat.sub_add_cancel (by omega)] at this
      exact this
theorem opP_q {q : Int32} (h1 : -160 ≤ q.toInt) (h2 : q.toInt ≤ 160) : opP q = true := by
  have a := op_3 opA_0 opA_107 opA_214 h1 h2
  have en : (-q).toInt = -q.toInt := by rw [Int32.toInt_neg, Int.bmod_eq_of_le (by omega) (by omega)]
  have b := op_3 opA_0 opA_107 opA_214 (q := -q) (by omega) (by omega)
  have c := op_3 opB_0 opB_107 opB_214 h1 h2
  unfold opA at a b
  unfold opB at c
  simp only [Bool.and_eq_true] at c
  simp only [opP, Bool.and_eq_true]
  exact ⟨⟨⟨⟨a, b⟩, c.1.1⟩, c.1.2⟩, c.2⟩
