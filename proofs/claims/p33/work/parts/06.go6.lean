/-! methods of classes that have natives of their own: their bodies are run if no native goes by their name and descriptor -/
theorem qq_metF {M : qq_M} {as : List Value} {hp : qq_H} {mc ms : Nat} {P : Option Value → qq_H → Prop} {PX : String → qq_H → Prop} (hh : M.hh = []) (hy : plainFor M.y = true) (hlen : (lg_sl as).length ≤ M.mx) (hlv : 1 ≤ M.lv) (g : qq_Go M hp mc ms 0 (lv_args 0 as) [] P PX) : qq_Mt M as hp mc ms P PX := by
  intro l D base ad htr hwk
  have hcw : qq_cw M = Cond.code M.y M.cc M.mx M.rt := by unfold qq_cw; rw [hh]
  rw [hcw]
  refine MetFree.of_bodySF (code := M.cc) (maxLocals := M.mx) (ret := M.rt) hy (fun args s m hb hn => ?_) (fun p e s m args below meth c s₁ B hml hP _ => ?_)
  · obtain ⟨meth, c, h1, h2, h3, h4, h5, h6, -, -⟩ := Cond.code_spec hn (atoms_spec hb _ List.mem_cons_self)
    exact ⟨meth, c, h1, h2, h3, h4, h5, h6⟩
  · have hts0 := atoms_spec B.pre
    have hex : c.exceptionTable.toList = tableOf M.hh := by
      obtain ⟨m9, c9, h1, h2, -, -, -, -, h7, -⟩ := Cond.code_spec B.named (hts0 _ List.mem_cons_self)
      cases Option.some.inj (h1.symm.trans B.method)
      cases Option.some.inj (h2.symm.trans (Stand.of_body B).code)
      rw [hh, Array.isEmpty_iff.mp h7]
      rfl
    obtain ⟨rfl, hR, hK, hX⟩ := hP
    have hl := lv_entry (as.map (qq_mv ad)) (n := M.mx) (by rw [qq_sll]; exact hlen)
    rw [qq_lvm] at hl
    have k : W p l e (headSpec (Cond.code M.y M.cc M.mx M.rt :: lw_gd) (qq_rm M mc ms)).room s m (as.map (qq_mv ad)).toArray below meth c s.heap [] 0 0 (vx_MQ below (qq_Q D base ad hp P) (qq_QX D base ad hp PX) (as.map (qq_mv ad)).toArray s mc ms (qq_A base)) (entryFrame m (as.map (qq_mv ad)).toArray M.mx) := by
      rw [lg_entry_eq]
      exact g D base ad p l e (qq_rm M mc ms) s m _ below meth c s.heap [] 0 0 _
        ⟨B.exec, B.bytes, B.returns, hml, findClass_of_methodNamed B.named, B.notSynchronized, (name_of_methodNamed B.named B.method).1, fun w hw => hts0 w (List.mem_cons_of_mem _ hw), hex, ⟨Nat.le_refl _, Nat.le_refl _, hlv⟩, htr, hK, hX⟩
        ⟨hl, qq_wla as 0 hwk, fun v hv => (List.not_mem_nil hv).elim, hR, va_S.rf, Nat.le_of_eq (Nat.zero_add _), Nat.le_of_eq (Nat.zero_add _)⟩
    obtain ⟨t, a1, o, b1, b2, b3⟩ := k s₁ (by rw [B.state]; rfl) (Stand.of_body B)
    exact ⟨t, o, a1, b1, b2, b3⟩
