/-! the law: the script; constructors in one part of the world; the first state -/
theorem nwL_25 : z_na RL 25 8 := ⟨RX8, TX8, 10, tyX8, rfl, by decide, rfl, iX8, tyX8_ok, by decide +kernel, z_gd 47 (by decide +kernel) (by decide +kernel), z_gd 48 (by decide +kernel) (by decide +kernel), z_gd 29 (by decide +kernel) (by decide +kernel)⟩
def zXb (b Ls : Nat) (xs : Nat → Int32) (z0 : zRg) (U : State) : Prop := va_X b Ls xs U U.heap ∧ b < U.heap.size ∧ ¬ z0 b
def z_Pz (b Ls : Nat) (xs : Nat → Int32) (D : va_G) (cy : Nat → ClassId) (z0 : zRg) (av : List Value) (g : zSh) (σ : zIn) : Array Value → State → Prop := fun a U => z_Py D cy z0 av g σ a U ∧ zXb b Ls xs z0 U
theorem z_Pz_blind {b Ls : Nat} {xs : Nat → Int32} {D : va_G} {cy : Nat → ClassId} {z0 : zRg} {av : List Value} {g : zSh} {σ : zIn} : FrameBlind (z_Pz b Ls xs D cy z0 av g σ) := by
  intro a U gg mk h
  exact ⟨z_Py_blind a U gg mk h.1, va_X.moved (u := U) (U := U.calling gg mk a) (Vm.Alike.refl U.vm) h.2.1, h.2.2⟩
def z_Cz (b Ls : Nat) (xs : Nat → Int32) (l : Launch) (D : va_G) (cy : Nat → ClassId) (z0 : zRg) (M : zM) (av : List Value) (g : zSh) (σ : zIn) (Post : Option Value → zSh → zIn → Prop) : Prop :=
  Met l M.1 (zc0 M :: lw_good) { frames := M.2.2.2.2.1, cells := M.2.2.2.2.2.1, slots := M.2.2.2.2.2.2.1, locals := M.2.2.2.2.2.2.2 } (z_Pz b Ls xs D cy z0 av g σ) (z_Qc D cy z0 Post) M.2.2.2.2.2.1 M.2.2.2.2.2.2.1 (z_A z0)
theorem z_ofZ {b Ls : Nat} {xs : Nat → Int32} {l : Launch} {D : va_G} {cy : Nat → ClassId} {z0 : zRg} {M : zM} {av : List Value} {g : zSh} {σ : zIn} {Post : Option Value → zSh → zIn → Prop} (hpn : plainName M.1.cls = true) (hav : ∀ v ∈ av, v.category = 1) (hn : av.length ≤ M.2.2.1)
    (h : ∀ (p : Program) (e : Env) (s : State) (m : MethodId) (args : Array Value) (below : List Frame) (meth : Method) (c : Code), z_cx p s m args meth c M.1.cls M.2.1 M.2.2.1 M.2.2.2.1 M.1.name D cy z0 → zTh z0 s → zXb b Ls xs z0 s →
      z_V p l e (zRm M) s m args below meth c M.2.2.1 D cy z0 0 0 (zQm M below D cy z0 Post args s) 0 (av.map some ++ List.replicate (M.2.2.1 - av.length) none) [] g σ) : z_Cz b Ls xs l D cy z0 M av g σ Post := by
  refine Met.ofW (cc := M.2.1) (maxL := M.2.2.1) (ret := M.2.2.2.1) hpn rfl ?_
  intro p e s m args below meth c s₁ B hml hv
  obtain ⟨⟨rfl, ⟨hz, hP, hD, hK, hN⟩, hthr⟩, hxb⟩ := hv
  have hts := atoms_spec (ws := .code M.1 M.2.1 M.2.2.1 M.2.2.2.1 :: lw_good) B.pre
  have hown : s.vm.findClass M.1.cls = some m.cls := findClass_of_methodNamed B.named
  have hin : meth.name = M.1.name := (name_of_methodNamed B.named B.method).1
  have hl0 := lv_entry av (n := M.2.2.1) (by rw [z_sl_len av hav]; exact hn)
  rw [lg_entry_eq]
  generalize (lg_sl av ++ List.replicate (M.2.2.1 - (lg_sl av).length) Slot.unset).toArray = ls at hl0 ⊢
  refine h p e s m av.toArray below meth c ⟨B.exec, B.bytes, hml, hown, fun w hw => hts w (List.mem_cons_of_mem _ hw), hN, hK, hz, B.returns, hin, B.notSynchronized⟩ hthr hxb s.heap [] ls hP hD va_S.rf ⟨⟨hl0.1, hl0.2.1, fun q hq => by cases hq⟩, fun i v hi => ?_, fun i v hi => ?_⟩
  · have hi' : av[i]? = some v := by
      by_cases hlt : i < av.length
      · rw [List.getElem?_append_left (by simpa using hlt), List.getElem?_map] at hi
        cases hq : av[i]? with
        | none => rw [hq] at hi; cases hi
        | some w => rw [hq] at hi; cases hi; rfl
      · rw [List.getElem?_append_right (by simpa using Nat.not_lt.mp hlt)] at hi
        have := List.mem_of_getElem? hi
        simp at this
    have := hl0.2.2 (0 + i, v) (z_lv_args av 0 hav i v hi')
    simpa using this
  · have hi' : some v ∈ av.map some ++ List.replicate (M.2.2.1 - av.length) (none : Option Value) := List.mem_of_getElem? hi
    rcases List.mem_append.mp hi' with h1 | h1
    · obtain ⟨w, hw, e⟩ := List.mem_map.mp h1
      cases e; exact Or.inl (hav v hw)
    · simp at h1
section ZQ
variable {p : Program} {l : Launch} {e : Env} {R : Room} {s : State} {m : MethodId} {args : Array Value} {below : List Frame} {meth : Method} {c : Code} {cells slots : Nat} {Q : State → Prop} {own nm : String} {cc : ByteArray} {nL : Nat} {ret : Option FieldType} {D : va_G} {cy : Nat → ClassId} {z0 : zRg} {pc : Nat} {L : List (Option Value)} {st : List Value} {g : zSh} {σ : zIn}
theorem z_runSZ {b9 Ls : Nat} {xs : Nat → Int32} (hXs : zXb b9 Ls xs z0 s) (X : z_cx p s m args meth c own cc nL ret nm D cy z0) (Y : zTh z0 s) {idx n : Nat} {M : zM} {As rest : List Value} {Post : Option Value → zSh → zIn → Prop} (F : z_cS own idx M n) (h : z_Cz b9 Ls xs l D cy z0 M As g σ Post) (hn : As.length = n) (hst : st = As.reverse ++ rest) (hcat : (rest.map fun v => v.category).sum ≤ 8) (hR : M.2.2.2.2.1 + 1 ≤ R.frames ∧ 8 + (M.2.2.1 + 11) + M.2.2.2.2.2.2.2 ≤ R.locals) (hc : cells + M.2.2.2.2.2.1 ≤ R.cells ∧ slots + M.2.2.2.2.2.2.1 ≤ R.slots) (d : decode cc pc = .ok (.invokestatic idx, 3)) (kk : ∀ (v : Option Value) (g' : zSh) (σ' : zIn), Post v g' σ' → z_V p l e R s m args below meth c nL D cy z0 (cells + M.2.2.2.2.2.1) (slots + M.2.2.2.2.2.2.1) Q (pc + 3) (L) (v.toList ++ rest) g' σ') : z_V p l e R s m args below meth c nL D cy z0 cells slots Q (pc) (L) (st) g σ := by
  intro H locs ls hP hD hS hL
  have X0 := X
  obtain ⟨hx, hb', hml, hown, hts, hN, hK, hz, hr, hnm, hlk⟩ := X
  obtain ⟨⟨f1, f2, f3, f4, f5⟩, f6⟩ := F
  subst hst
  have hpc : ∀ U : State, U.heap = H → s.WarmedH U.vm → z_Pz b9 Ls xs D cy z0 As g σ (As).toArray U := fun U hU hW => ⟨⟨rfl, ⟨by rw [hU]; exact z_hi_le hz hS.1, by rw [hU]; exact hP, hD, va_K.moved hW.alike hK, lw_nest_warm hW hN⟩, zTh_at Y hU hW hS⟩, va_X.moved hW.alike (by rw [hU]; exact hXs.1.kept (hS.2.1 b9 hXs.2.1 hXs.2.2)), by rw [hU]; exact Nat.lt_of_lt_of_le hXs.2.1 hS.1, hXs.2.2⟩
  rcases f1 with f1 | ⟨host, f1⟩
  · exact z_call (va_runS (As := As) (rest := rest) ⟨hx, hb', hml, hown, hts⟩ h ⟨callB_of n hts (z_goodIn (w0 := .count 0) f2) rfl rfl rfl (hts _ f3) (hts _ f1) ⟨f4.1, f4.2, f5⟩ hR, hts _ f6⟩ ⟨z_Pz_blind, hpc⟩ rfl hn hL.1.1 rfl (lv_room hcat) d hc) hS hL kk
  · exact z_call (va_runSN (As := As) (rest := rest) ⟨hx, hb', hml, hown, hts⟩ h ⟨va_cnB n hts (z_goodIn (w0 := .count 0) f2) rfl rfl rfl (hN _ f1) (hts _ f3) ⟨f4.1, f4.2, f5⟩ hR, hts _ f6, trivial⟩ ⟨z_Pz_blind, hpc⟩ rfl hn hL.1.1 rfl (lv_room hcat) d hc) hS hL kk
theorem z_runIn (X : z_cx p s m args meth c own cc nL ret nm D cy z0) (Y : zTh z0 s) {idx n b : Nat} {M : zM} {As rest : List Value} {Post : Option Value → zSh → zIn → Prop} (F : z_cI own idx M n) (h : z_Cn (zc0 M) l D cy z0 M (.ref (g.2.1 b) :: As) g σ Post) (hn : As.length = n) (hst : st = As.reverse ++ .ref (g.2.1 b) :: rest) (hcat : (rest.map fun v => v.category).sum ≤ 8) (hR : M.2.2.2.2.1 + 1 ≤ R.frames ∧ 8 + (M.2.2.1 + 11) + M.2.2.2.2.2.2.2 ≤ R.locals) (hc : cells + M.2.2.2.2.2.1 ≤ R.cells ∧ slots + M.2.2.2.2.2.2.1 ≤ R.slots) (d : decode cc pc = .ok (.invokespecial idx, 3)) (kk : ∀ (v : Option Value) (g' : zSh) (σ' : zIn), Post v g' σ' → z_V p l e R s m args below meth c nL D cy z0 (cells + M.2.2.2.2.2.1) (slots + M.2.2.2.2.2.2.1) Q (pc + 3) (L) (v.toList ++ rest) g' σ') : z_V p l e R s m args below meth c nL D cy z0 cells slots Q (pc) (L) (st) g σ := by
  intro H locs ls hP hD hS hL
  obtain ⟨hx, hb', hml, hown, hts, hN, hK, hz, hr, hnm, hlk⟩ := X
  obtain ⟨⟨f1, f2, f3, f4, f5⟩, f6, f7, f8⟩ := F
  subst hst
  have hpc : ∀ U : State, U.heap = H → s.WarmedH U.vm → z_Py D cy z0 (.ref (g.2.1 b) :: As) g σ ((.ref (g.2.1 b) :: As)).toArray U := fun U hU hW => ⟨rfl, ⟨by rw [hU]; exact z_hi_le hz hS.1, by rw [hU]; exact hP, hD, va_K.moved hW.alike hK, lw_nest_warm hW hN⟩, zTh_at Y hU hW hS⟩
  obtain ⟨My, Mc, Ml, Mr, Mf, Mcc, Ms, Mlo⟩ := M
  dsimp only at f8
  subst f8
  rcases f1 with f1 | ⟨host, f1⟩
  · exact z_call (va_runI (b := g.2.1 b) (As := As) (rest := rest) ⟨hx, hb', hml, hown, hts⟩ h ⟨callB_of n hts (z_goodIn (M := (My, Mc, Ml, none, Mf, Mcc, Ms, Mlo)) (w0 := .count 0) f2) rfl rfl rfl (hts _ f3) (hts _ f1) ⟨f4.1, f4.2, f5⟩ hR, f6, hts _ f7⟩ ⟨z_Py_blind, hpc⟩ rfl hn hL.1.1 rfl (lv_room hcat) d hc) hS hL kk
  · exact z_call (va_runIN (b := g.2.1 b) (As := As) (rest := rest) ⟨hx, hb', hml, hown, hts⟩ h ⟨va_cnB n hts (z_goodIn (M := (My, Mc, Ml, none, Mf, Mcc, Ms, Mlo)) (w0 := .count 0) f2) rfl rfl rfl (hN _ f1) (hts _ f3) ⟨f4.1, f4.2, f5⟩ hR, f6, hts _ f7⟩ ⟨z_Py_blind, hpc⟩ rfl hn hL.1.1 rfl (lv_room hcat) d hc) hS hL kk
theorem z_sldZ (X : z_cx p s m args meth c own cc nL ret nm D cy z0) {b Ls : Nat} {xs : Nat → Int32} (hXs : zXb b Ls xs z0 s) {i : Nat} (hi : i < Ls) (hi2 : Ls < 2 ^ 31) (d : decode cc pc = .ok (.iaload, 1)) (kk : z_V p l e R s m args below meth c nL D cy z0 cells slots Q (pc + 1) (L) (.int (xs i) :: st) g σ) : z_V p l e R s m args below meth c nL D cy z0 cells slots Q (pc) (L) (.int (nI i) :: .ref b :: st) g σ := by
  intro H locs ls hP hD hS hL
  obtain ⟨hx, hb, hml, hown, hts, hN, hK, hz, hr, hnm, hlk⟩ := X
  refine va_sld hx hb hXs.1 hXs.2.1 hXs.2.2 hS (vp_in_nI hi hi2) d ?_
  rw [nI_clamp (by omega)]
  exact kk H locs ls hP hD hS hL
theorem z_slenZ (X : z_cx p s m args meth c own cc nL ret nm D cy z0) {b Ls : Nat} {xs : Nat → Int32} (hXs : zXb b Ls xs z0 s) (d : decode cc pc = .ok (.arraylength, 1)) (kk : z_V p l e R s m args below meth c nL D cy z0 cells slots Q (pc + 1) (L) (.int (nI Ls) :: st) g σ) : z_V p l e R s m args below meth c nL D cy z0 cells slots Q (pc) (L) (.ref b :: st) g σ := by
  intro H locs ls hP hD hS hL
  obtain ⟨hx, hb, hml, hown, hts, hN, hK, hz, hr, hnm, hlk⟩ := X
  exact va_slen hx hb hXs.1 hXs.2.1 hXs.2.2 hS d (kk H locs ls hP hD hS hL)
end ZQ
set_option maxHeartbeats 4000000 in
set_option maxRecDepth 100000 in
theorem tL_cell {l : Launch} {D : va_G} {cy : Nat → ClassId} {z0 : zRg} {g : zSh} {σ : zIn} {b Ls : Nat} {xs : Nat → Int32} (k : Nat) (hk : k < 1000) (hLs : Ls < 1000) : z_Cz b Ls xs l D cy z0 NL_cell [.ref b, .int (nI k)] g σ (fun v g' σ' => ∃ x, v = some (.int x) ∧ g' = g ∧ σ' = σ) := by
  refine z_ofZ (by decide) (z_cr (z_ci z_c0)) (Nat.le_of_ble_eq_true rfl) ?_
  intro p e s m args below meth c X Y hXs
  refine z_iload_n X dL_cell_0 rfl ?_
  refine z_aload_n X dL_cell_1 rfl ?_
  refine z_slenZ X hXs dL_cell_2 ?_
  refine z_icmp_ge (tgt := 12) X dL_cell_3 (by decide) (fun c_3 => ?_) (fun c_3 => ?_)
  · skip
    try simp (disch := omega) only [zk0, nI_leI, nI_ltI, nI_eq, zbk_notn, zbk_not, zbk_n0, zbk_0, zb_0, zb_n0, zb_not, zb_notn, Bool.not_eq_false, Bool.not_eq_true, Bool.not_eq_true', Bool.not_eq_false', decide_eq_true_eq, decide_eq_false_iff_not, Classical.not_not] at c_3
    refine z_ldc X qL_7 dL_cell_12 ?_
    refine z_iload_n X dL_cell_14 rfl ?_
    refine z_bipush (v := 97) X (by decide) dL_cell_15 ?_
    refine z_iadd X dL_cell_17 ?_
    refine z_imul X dL_cell_18 ?_
    refine z_istore_n X dL_cell_19 (by decide) ?_
    refine z_iload_n X dL_cell_20 rfl ?_
    refine z_iload_n X dL_cell_21 rfl ?_
    refine z_bipush (v := 16) X (by decide) dL_cell_22 ?_
    refine z_iushr X dL_cell_24 ?_
    refine z_ixor X dL_cell_25 ?_
    refine z_ldc X qL_8 dL_cell_26 ?_
    refine z_imul X dL_cell_28 ?_
    refine z_sipush (v := 293) X (by decide) dL_cell_29 ?_
    refine z_iload_n X dL_cell_32 rfl ?_
    refine z_imul X dL_cell_33 ?_
    refine z_iadd X dL_cell_34 ?_
    refine z_iret X (by decide) (by decide) rfl dL_cell_35 ?_
    exact ⟨_, rfl, rfl, rfl⟩
  · skip
    try simp (disch := omega) only [zk0, nI_leI, nI_ltI, nI_eq, zbk_notn, zbk_not, zbk_n0, zbk_0, zb_0, zb_n0, zb_not, zb_notn, Bool.not_eq_false, Bool.not_eq_true, Bool.not_eq_true', Bool.not_eq_false', decide_eq_true_eq, decide_eq_false_iff_not, Classical.not_not] at c_3
    refine z_aload_n X dL_cell_6 rfl ?_
    refine z_iload_n X dL_cell_7 rfl ?_
    refine z_sldZ X hXs (by omega) (by omega) dL_cell_8 ?_
    refine z_goto (tgt := 19) X dL_cell_9 (by decide) ?_
    refine z_istore_n X dL_cell_19 (by decide) ?_
    refine z_iload_n X dL_cell_20 rfl ?_
    refine z_iload_n X dL_cell_21 rfl ?_
    refine z_bipush (v := 16) X (by decide) dL_cell_22 ?_
    refine z_iushr X dL_cell_24 ?_
    refine z_ixor X dL_cell_25 ?_
    refine z_ldc X qL_8 dL_cell_26 ?_
    refine z_imul X dL_cell_28 ?_
    refine z_sipush (v := 293) X (by decide) dL_cell_29 ?_
    refine z_iload_n X dL_cell_32 rfl ?_
    refine z_imul X dL_cell_33 ?_
    refine z_iadd X dL_cell_34 ?_
    refine z_iret X (by decide) (by decide) rfl dL_cell_35 ?_
    exact ⟨_, rfl, rfl, rfl⟩
/-! the first state -/
theorem zSt_0 {g : zSh} {σ ν : zIn} {ids nl bs : List Nat} {ob : List (Nat × Nat)} {ar rf : List (Nat × Nat × Nat)} {ad : Nat → Nat} (d : zDs ids ob ar rf nl bs ad ν g σ) (h1 : ∀ q ∈ zobs, q ∈ ob) (h2 : ∀ q ∈ zars, q ∈ ar) (h3 : ∀ q ∈ zrfs, q ∈ rf) (h4 : 14 ∈ nl ∧ 15 ∈ nl ∧ 19 ∈ nl ∧ 20 ∈ nl) (h5 : ∀ i, i < 20 → i + 1 ∈ ids) (h6 : ∀ i ∈ ids, i < 60) (hν : ν = zK_nu) : zSt g σ zK_nu (fun _ => 0) := by
  obtain ⟨d1, d2, d3, d4, d5, d6, d7, d8⟩ := d
  have n : ∀ k, ¬ k < 0 := Nat.not_lt_zero
  have hS : zS g := ⟨fun q hq => d3 q (h1 q hq), fun q hq => d4 q (h2 q hq), fun q hq => d5 q (h3 q hq)⟩
  have z : ∀ i k, i ≠ 18 → zK_nu i k = 0 := fun i k hi => by
    unfold zK_nu
    rw [z_up_ne hi, z_up_ne hi]
  refine ⟨⟨hS, d1, ⟨by decide, fun o ho => absurd ho (n o), fun o _ => d6 14 h4.1 o⟩, ⟨by decide, fun o ho => absurd ho (n o), fun o _ => d6 15 h4.2.1 o⟩, ⟨by decide, fun o ho => absurd ho (n o), fun o _ => d6 19 h4.2.2.1 o⟩, ⟨by decide, fun o ho => absurd ho (n o), fun o _ => d6 20 h4.2.2.2 o⟩, fun i hi => Or.inl (h6 i (by rw [← d2]; exact hi))⟩, fun m hm => absurd hm (n m), ?_, ?_⟩
  · intro i k hp
    have hi : 1 ≤ i ∧ i ≤ 20 := by
      unfold inP at hp
      dsimp only at hp
      omega
    have := h5 (i - 1) (by omega)
    rw [show i - 1 + 1 = i by omega] at this
    rw [d8 i this k, hν]
  · refine ⟨⟨⟨z 2 4 (by decide), by decide, fun k hk => absurd hk (n k)⟩, ⟨z 2 5 (by decide), by decide, fun k hk => absurd hk (n k), ⟨fun k hk => absurd hk (n k), fun j k hj => absurd hj (n j)⟩, fun j k _ hk => absurd hk (n k)⟩, z 11 1 (by decide), by decide, fun k hk => absurd hk (n k)⟩, ⟨⟨z 13 4 (by decide), by decide, z 13 5 (by decide), by decide⟩, fun o ho => absurd ho (n o), fun c hc => absurd hc (n c)⟩, ⟨⟨z 1 7 (by decide), by decide, z 1 9 (by decide), by decide⟩, fun k hk => absurd hk (n k), fun j hj => ?_, by decide⟩, ⟨⟨z 1 8 (by decide), by decide⟩, fun m hm => absurd hm (n m)⟩, fun o ho => absurd ho (n o)⟩
    rcases hj with rfl | ⟨k, hk, -⟩
    · unfold zRl zpl zcd zvo
      decide
    · exact absurd hk (n k)