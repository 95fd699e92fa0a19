/-! a field of the law's own record -/
theorem qq_getO {M : qq_M} {hp : qq_H} {bc bs pc : Nat} {loc : List (Nat × Value)} {rest : List Value} {P : Option Value → qq_H → Prop} {PX : String → qq_H → Prop} {o ci idx N : Nat} {fs : List Value} {v : Value} {C host : String} {T : u_T} (hdg : decode M.cc pc = .ok (.getfield idx, 3)) (ho : hp.2 o = .inr (ci, fs)) (hE : qq_E ≤ o) (hc : vwCl[ci]? = some (C, T, N)) (k : Nat) (hk : k < N) (hv : fs[k]? = some v) (hin : ∀ w ∈ u_ws C T N, w ∈ lw_gd) (hw : Cond.fieldLinkNest M.y.cls idx (T k).1 (T k).2.1 (T k).2.2.1 host ∈ qq_xw) (kk : qq_Go M hp bc bs (pc + 3) loc (v :: rest) P PX) : qq_Go M hp bc bs pc loc (.ref o :: rest) P PX := by
  intro D base ad p l e R s m args below meth c H locs cells slots ls C1 C2
  have ho2 : o < hp.1 := qq_wh C2.2.2.1 o rfl
  have hwc := C2.2.2.2.1.2.2.2 o ho2
  rw [ho] at hwc
  have hvw : qq_wv hp.1 v := hwc v (List.mem_of_getElem? hv)
  have K := kk D base ad p l e R s m args below meth c H locs cells slots ls C1 (qq_Ck (fun h => qq_wu hvw (qq_wt h)) C2)
  have he : (qq_ws D ad hp)[o - qq_E]? = some (ad o, .inr (ci, fs.map (qq_mv ad))) := by
    rw [qq_wsAt hE ho2, ho]
    rfl
  exact va_getN C1.1 C1.2.1 C1.2.2.2.2.2.2.2.1 hin C1.2.2.2.2.1 C1.2.2.2.2.2.2.2.2.2.2.2.1 (qq_RP C2.2.2.2.1) (o - qq_E) he hc k hk (va_Nw.use rfl (C1.2.2.2.2.2.2.2.2.2.2.2.2.2.2.2.2.2.2.2.1 _ hw)) (fun _ h9 => h9) (v := qq_mv ad v) (by rw [List.getElem?_map, hv]; rfl) hdg K
theorem LI_o {A : qA} {T : sM} {hp hp' : qq_H} {fs : List Value} (hA : ms_M A T hp) (f : fr A hp hp') (h : 419 < hp.1) (ho : hp.2 419 = .inr (3, fs)) : hp'.2 419 = .inr (3, fs) := by
  have n1 : A.1 ≠ 419 := fun e => by have := hA.2.2.2.1; rw [e, ho] at this; exact nomatch this
  have n2 : A.2.1 ≠ 419 := fun e => by have := hA.2.2.2.2.1; rw [e, ho] at this; exact nomatch this
  have n3 : A.2.2 ≠ 419 := fun e => by have := hA.2.2.2.2.2.1; rw [e, ho] at this; exact nomatch this
  exact (f.2 419 h (by omega) (by omega) n1.symm n2.symm n3.symm).trans ho
def bzj (x : Int32) : Int64 := if x = 0 then 0 else 1
def bz (x : Int32) : Int32 := if x = 0 then 0 else 1
theorem bz01 (x : Int32) : bz x = 0 ∨ bz x = 1 := by
  unfold bz
  exact qq_i01 (Or.inl rfl) (Or.inr rfl)
