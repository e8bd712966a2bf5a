/-! calls out of the law's methods; their entry -/
theorem z_ofN {l : Launch} {D : va_G} {cy : Nat → ClassId} {z0 : zRg} {M : zM} {av : List Value} {g : zSh} {σ : zIn} {Post : Option Value → zSh → zIn → Prop} (hpn : plainName M.1.cls = true) (hav : ∀ v ∈ av, v.category = 1) (hn : av.length ≤ M.2.2.1)
    (h : ∀ (p : Program) (e : Env) (s : State) (m : MethodId) (args : Array Value) (below : List Frame) (meth : Method) (c : Code), z_cx p s m args meth c M.1.cls M.2.1 M.2.2.1 M.2.2.2.1 M.1.name D cy z0 → zTh z0 s →
      z_V p l e (zRm M) s m args below meth c M.2.2.1 D cy z0 0 0 (zQm M below D cy z0 Post args s) 0 (av.map some ++ List.replicate (M.2.2.1 - av.length) none) [] g σ) : z_Cn (zc0 M) l D cy z0 M av g σ Post := by
  refine Met.ofW (cc := M.2.1) (maxL := M.2.2.1) (ret := M.2.2.2.1) hpn rfl ?_
  intro p e s m args below meth c s₁ B hml hv
  obtain ⟨rfl, ⟨hz, hP, hD, hK, hN⟩, hthr⟩ := hv
  have hts := atoms_spec (ws := .code M.1 M.2.1 M.2.2.1 M.2.2.2.1 :: lw_good) B.pre
  have hown : s.vm.findClass M.1.cls = some m.cls := findClass_of_methodNamed B.named
  have hin : meth.name = M.1.name := (name_of_methodNamed B.named B.method).1
  have hl0 := lv_entry av (n := M.2.2.1) (by rw [z_sl_len av hav]; exact hn)
  rw [lg_entry_eq]
  generalize (lg_sl av ++ List.replicate (M.2.2.1 - (lg_sl av).length) Slot.unset).toArray = ls at hl0 ⊢
  refine h p e s m av.toArray below meth c ⟨B.exec, B.bytes, hml, hown, fun w hw => hts w (List.mem_cons_of_mem _ hw), hN, hK, hz, B.returns, hin, B.notSynchronized⟩ hthr s.heap [] ls hP hD va_S.rf ⟨⟨hl0.1, hl0.2.1, fun q hq => by cases hq⟩, fun i v hi => ?_, fun i v hi => ?_⟩
  · have hi' : av[i]? = some v := by
      by_cases hlt : i < av.length
      · rw [List.getElem?_append_left (by simpa using hlt), List.getElem?_map] at hi
        cases hq : av[i]? with
        | none => rw [hq] at hi; cases hi
        | some w => rw [hq] at hi; cases hi; rfl
      · rw [List.getElem?_append_right (by simpa using Nat.not_lt.mp hlt)] at hi
        have := List.mem_of_getElem? hi
        simp at this
    have := hl0.2.2 (0 + i, v) (z_lv_args av 0 hav i v hi')
    simpa using this
  · have hi' : some v ∈ av.map some ++ List.replicate (M.2.2.1 - av.length) (none : Option Value) := List.mem_of_getElem? hi
    rcases List.mem_append.mp hi' with h1 | h1
    · obtain ⟨w, hw, e⟩ := List.mem_map.mp h1
      cases e; exact Or.inl (hav v hw)
    · simp at h1
section ZY
variable {p : Program} {l : Launch} {e : Env} {R : Room} {s : State} {m : MethodId} {args : Array Value} {below : List Frame} {meth : Method} {c : Code} {cells slots : Nat} {Q : State → Prop} {own nm : String} {cc : ByteArray} {nL : Nat} {ret : Option FieldType} {D : va_G} {cy : Nat → ClassId} {z0 : zRg} {pc : Nat} {L : List (Option Value)} {st : List Value} {g : zSh} {σ : zIn}
theorem z_runSn (X : z_cx p s m args meth c own cc nL ret nm D cy z0) (Y : zTh z0 s) {idx n : Nat} {M : zM} {As rest : List Value} {Post : Option Value → zSh → zIn → Prop} (F : z_cS own idx M n) (h : z_Cn (zc0 M) l D cy z0 M As g σ Post) (hn : As.length = n) (hst : st = As.reverse ++ rest) (hcat : (rest.map fun v => v.category).sum ≤ 8) (hR : M.2.2.2.2.1 + 1 ≤ R.frames ∧ 8 + (M.2.2.1 + 11) + M.2.2.2.2.2.2.2 ≤ R.locals) (hc : cells + M.2.2.2.2.2.1 ≤ R.cells ∧ slots + M.2.2.2.2.2.2.1 ≤ R.slots) (d : decode cc pc = .ok (.invokestatic idx, 3)) (kk : ∀ (v : Option Value) (g' : zSh) (σ' : zIn), Post v g' σ' → z_V p l e R s m args below meth c nL D cy z0 (cells + M.2.2.2.2.2.1) (slots + M.2.2.2.2.2.2.1) Q (pc + 3) (L) (v.toList ++ rest) g' σ') : z_V p l e R s m args below meth c nL D cy z0 cells slots Q (pc) (L) (st) g σ := by
  intro H locs ls hP hD hS hL
  have X0 := X
  obtain ⟨hx, hb', hml, hown, hts, hN, hK, hz, hr, hnm, hlk⟩ := X
  obtain ⟨⟨f1, f2, f3, f4, f5⟩, f6⟩ := F
  subst hst
  have hpc : ∀ U : State, U.heap = H → s.WarmedH U.vm → z_Py D cy z0 As g σ (As).toArray U := fun U hU hW => ⟨rfl, ⟨by rw [hU]; exact z_hi_le hz hS.1, by rw [hU]; exact hP, hD, va_K.moved hW.alike hK, lw_nest_warm hW hN⟩, zTh_at Y hU hW hS⟩
  rcases f1 with f1 | ⟨host, f1⟩
  · exact z_call (va_runS (As := As) (rest := rest) ⟨hx, hb', hml, hown, hts⟩ h ⟨callB_of n hts (z_goodIn (w0 := .count 0) f2) rfl rfl rfl (hts _ f3) (hts _ f1) ⟨f4.1, f4.2, f5⟩ hR, hts _ f6⟩ ⟨z_Py_blind, hpc⟩ rfl hn hL.1.1 rfl (lv_room hcat) d hc) hS hL kk
  · exact z_call (va_runSN (As := As) (rest := rest) ⟨hx, hb', hml, hown, hts⟩ h ⟨va_cnB n hts (z_goodIn (w0 := .count 0) f2) rfl rfl rfl (hN _ f1) (hts _ f3) ⟨f4.1, f4.2, f5⟩ hR, hts _ f6, trivial⟩ ⟨z_Py_blind, hpc⟩ rfl hn hL.1.1 rfl (lv_room hcat) d hc) hS hL kk
theorem z_runVn (X : z_cx p s m args meth c own cc nL ret nm D cy z0) (Y : zTh z0 s) {idx n b ci : Nat} {M : zM} {As rest : List Value} {Post : Option Value → zSh → zIn → Prop} (F : z_cV own idx M n ci) (h : z_Cn (zc0 M) l D cy z0 M (.ref (g.2.1 b) :: As) g σ Post) (ho : z_ob g b ci) (hn : As.length = n) (hst : st = As.reverse ++ .ref (g.2.1 b) :: rest) (hcat : (rest.map fun v => v.category).sum ≤ 8) (hR : M.2.2.2.2.1 + 1 ≤ R.frames ∧ 8 + (M.2.2.1 + 11) + M.2.2.2.2.2.2.2 ≤ R.locals) (hc : cells + M.2.2.2.2.2.1 ≤ R.cells ∧ slots + M.2.2.2.2.2.2.1 ≤ R.slots) (d : decode cc pc = .ok (.invokevirtual idx, 3)) (kk : ∀ (v : Option Value) (g' : zSh) (σ' : zIn), Post v g' σ' → z_V p l e R s m args below meth c nL D cy z0 (cells + M.2.2.2.2.2.1) (slots + M.2.2.2.2.2.2.1) Q (pc + 3) (L) (v.toList ++ rest) g' σ') : z_V p l e R s m args below meth c nL D cy z0 cells slots Q (pc) (L) (st) g σ := by
  intro H locs ls hP hD hS hL
  have X0 := X
  obtain ⟨hx, hb', hml, hown, hts, hN, hK, hz, hr, hnm, hlk⟩ := X
  obtain ⟨⟨f1, f2, f3, f4, f5⟩, f6, f7, f8, f9⟩ := F
  subst hst
  have hpc : ∀ U : State, U.heap = H → s.WarmedH U.vm → z_Py D cy z0 (.ref (g.2.1 b) :: As) g σ ((.ref (g.2.1 b) :: As)).toArray U := fun U hU hW => ⟨rfl, ⟨by rw [hU]; exact z_hi_le hz hS.1, by rw [hU]; exact hP, hD, va_K.moved hW.alike hK, lw_nest_warm hW hN⟩, zTh_at Y hU hW hS⟩
  obtain ⟨q, q1, q2⟩ := z_get_k (cy := cy) (σ := σ) ho.1
  rw [z_cel_ob ho.2 f8] at q2
  obtain ⟨C9, hC1, hC2⟩ : ∃ r : vw_C, vwCl[ci]? = some r ∧ r.1 = M.1.cls := by
    cases hq : vwCl[ci]? with
    | none => rw [hq] at f9; cases f9
    | some r => rw [hq] at f9; exact ⟨r, rfl, Option.some.inj f9⟩
  have hrec := va_recv hK hP hC1 q2
  rw [hC2] at hrec
  rcases f1 with f1 | ⟨host, f1⟩
  · exact z_call (va_runV (C := M.1.cls) (b := g.2.1 b) (As := As) (rest := rest) ⟨hx, hb', hml, hown, hts⟩ h ⟨callB_of n hts (z_goodIn (w0 := .count 0) f2) rfl rfl rfl (hts _ f3) (hts _ f1) ⟨f4.1, f4.2, f5⟩ hR, hts _ f6, hts _ f7⟩ ⟨z_Py_blind, hrec, hpc⟩ rfl hn hL.1.1 rfl (lv_room hcat) d hc) hS hL kk
  · exact z_call (va_runVN (C := M.1.cls) (b := g.2.1 b) (As := As) (rest := rest) ⟨hx, hb', hml, hown, hts⟩ h ⟨va_cnB n hts (z_goodIn (w0 := .count 0) f2) rfl rfl rfl (hN _ f1) (hts _ f3) ⟨f4.1, f4.2, f5⟩ hR, hts _ f6, hts _ f7⟩ ⟨z_Py_blind, hrec, hpc⟩ rfl hn hL.1.1 rfl (lv_room hcat) d hc) hS hL kk
theorem z_thr_at {z0 : zRg} {s U : State} {H : Heap} {locs : List Loc} (h : z_thr z0 s) (hU : U.heap = H) (hW : s.WarmedH U.vm) (hS : va_S (z_A z0) s.heap H locs) : z_thr z0 U := by
  obtain ⟨h1, h2, h3, h4⟩ := h
  have hk : ∀ a : Nat, a < s.heap.size → ¬ z_A z0 a → U.heap[a]? = s.heap[a]? := fun a q1 q2 => by rw [hU]; exact hS.2.1 a q1 q2
  exact ⟨vx_Zq.moved hW.alike (h1.kept hk), vx_Zq.moved hW.alike (h2.kept hk), lw_more_warm hW h3, fun own k tx hm => let ⟨a9, h9⟩ := h4 own k tx hm; ⟨a9, vk_R.warm hW h9⟩⟩
/-- a call that may throw, out of a method that lets it through -/
theorem z_runVT (X : z_cx p s m args meth c own cc nL ret nm D cy z0) (Y9 : z_ex l s c z0) {idx n b ci rc rs : Nat} {M : zM} {As rest : List Value} {Post Post0 : Option Value → zSh → zIn → Prop} {PX PX0 : String → zSh → zIn → Prop} (F1 : Cond.methodLink own idx M.1 ∈ lw_good) (F : z_cV own idx M n ci) (h : z_Cx l D cy z0 M (.ref (g.2.1 b) :: As) g σ Post PX) (ho : z_ob g b ci) (hn : As.length = n) (hst : st = As.reverse ++ .ref (g.2.1 b) :: rest) (hcat : (rest.map fun v => v.category).sum ≤ 8) (hR : M.2.2.2.2.1 + 1 ≤ R.frames ∧ 8 + (M.2.2.1 + 11) + M.2.2.2.2.2.2.2 ≤ R.locals) (hc : cells + M.2.2.2.2.2.1 ≤ R.cells ∧ slots + M.2.2.2.2.2.2.1 ≤ R.slots) (hrc : cells + M.2.2.2.2.2.1 ≤ rc) (hrs : slots + M.2.2.2.2.2.2.1 ≤ rs) (d : decode cc pc = .ok (.invokevirtual idx, 3))
    (kx : ∀ (E : String) (g' : zSh) (σ' : zIn), PX E g' σ' → PX0 E g' σ')
    (kk : ∀ (v : Option Value) (g' : zSh) (σ' : zIn), Post v g' σ' → z_V p l e R s m args below meth c nL D cy z0 (cells + M.2.2.2.2.2.1) (slots + M.2.2.2.2.2.2.1) (vx_MQ below (z_Qc D cy z0 Post0) (z_Xc D cy z0 PX0) args s rc rs (z_A z0)) (pc + 3) (L) (v.toList ++ rest) g' σ') : z_V p l e R s m args below meth c nL D cy z0 cells slots (vx_MQ below (z_Qc D cy z0 Post0) (z_Xc D cy z0 PX0) args s rc rs (z_A z0)) (pc) (L) (st) g σ := by
  intro H locs ls hP hD hS hL
  have X0 := X
  obtain ⟨hx, hb', hml, hown, hts, hN, hK, hz, hr, hnm, hlk⟩ := X
  obtain ⟨hfl, htab, Y⟩ := Y9
  obtain ⟨⟨-, f2, f3, f4, f5⟩, f6, f7, f8, f9⟩ := F
  subst hst
  have hpc : ∀ U : State, U.heap = H → s.WarmedH U.vm → z_Px D cy z0 (.ref (g.2.1 b) :: As) g σ ((.ref (g.2.1 b) :: As)).toArray U := fun U hU hW => ⟨rfl, ⟨by rw [hU]; exact z_hi_le hz hS.1, by rw [hU]; exact hP, hD, va_K.moved hW.alike hK, lw_nest_warm hW hN⟩, z_thr_at Y hU hW hS⟩
  obtain ⟨q, q1, q2⟩ := z_get_k (cy := cy) (σ := σ) ho.1
  rw [z_cel_ob ho.2 f8] at q2
  obtain ⟨C9, hC1, hC2⟩ : ∃ r : vw_C, vwCl[ci]? = some r ∧ r.1 = M.1.cls := by
    cases hq : vwCl[ci]? with
    | none => rw [hq] at f9; cases f9
    | some r => rw [hq] at f9; exact ⟨r, rfl, Option.some.inj f9⟩
  have hrec := va_recv hK hP hC1 q2
  rw [hC2] at hrec
  have hrun := vx_runV (C := M.1.cls) (b := g.2.1 b) (As := As) (rest := rest) (g := F0 m pc ls (As.reverse ++ .ref (g.2.1 b) :: rest)) (locs := locs) (H := H) (below := below) (meth := meth) (e := e) (cells := cells) (slots := slots) ⟨hx, hb', hml, hown, hts⟩ h ⟨callB_of n hts (z_goodIn (w0 := .count 0) f2) rfl rfl rfl (hts _ f3) (hts _ F1) ⟨f4.1, f4.2, f5⟩ hR, hts _ f6, hts _ f7⟩ ⟨z_Px_blind, hrec, hpc⟩ rfl hn hL.1.1 rfl (lv_room hcat) d hc
  have hS2 : ∀ (L' : List Loc) (t T' : State) (st₀ : State), st₀.heap = H → va_F (z_A z0) st₀ t → T'.heap = t.heap → (∀ z ∈ L', z_A z0 z.base) → va_S (z_A z0) s.heap T'.heap (locs ++ L') := by
    intro L' t T' st₀ h0 hF e1 hL'
    obtain ⟨hz2, hk⟩ := hF
    rw [h0] at hz2 hk
    exact ⟨Nat.le_trans hS.1 (by rw [e1]; exact hz2), fun q h1 h2 => by rw [e1, hk q (Nat.lt_of_lt_of_le h1 hS.1) h2]; exact hS.2.1 q h1 h2, fun q hq => by
      rcases List.mem_append.mp hq with h | h
      · exact hS.2.2 q h
      · exact hL' q h⟩
  intro T hT XT
  rcases hrun T hT XT with ⟨v, st₀, t, T', L', h0, X', hL', e1, e2, ⟨⟨v', g', σ', hv, hp, hP1, hD1⟩, hF⟩, stp⟩ | ⟨q9, st₀, t, T', L', E, ce, h0, X', hL', e1, e2, ⟨⟨g', σ', hp, hP1, hD1⟩, hF⟩, hce, hcv, hcl, stp⟩
  · cases hv
    obtain ⟨t2, a1, b1⟩ := kk v g' σ' hp T'.heap (locs ++ L') ls (by rw [e1]; exact hP1) hD1 (hS2 L' t T' st₀ h0 hF e1 hL') hL T' rfl X'
    exact ⟨t2, stp t2 a1, b1⟩
  · have hSS := hS2 L' t T' st₀ h0 hF e1 hL'
    obtain ⟨t2, a1, b1⟩ := vx_out (pc := pc) (ls := ls) (rest := rest) (E := E) (ce := ce) (q := q9) (mc := rc) (ms := rs) (Qc := z_Qc D cy z0 Post0) (XC := z_Xc D cy z0 PX0) (free := z_A z0) (l := l) (e := e) (p := p) (R := R) (args := args) (m := m) (s := s) (below := below) (meth := meth) (c := c) (H := T'.heap) (locs := locs ++ L') (cells := cells + M.2.2.2.2.2.1) (slots := slots + M.2.2.2.2.2.2.1) (fun x hx => (htab x hx).elim) hlk (by rw [e1]; exact hce) hcv hcl (fun t9 ht9 _ => ⟨⟨g', σ', kx E g' σ' hp, by rw [ht9, e1]; exact hP1, hD1⟩, by rw [ht9]; exact hSS.1, fun q r1 r2 => by rw [ht9]; exact hSS.2.1 q r1 r2⟩) hSS.2.2 hrc hrs T' rfl X'
    exact ⟨t2, stp.trans a1, b1⟩
theorem z_runSX (X : z_cx p s m args meth c own cc nL ret nm D cy z0) (Y : zTh z0 s) {hh : zHs} (htab : c.exceptionTable.toList = tableOf hh) {idx n : Nat} {M : zM} {As rest : List Value} {Post : Option Value → zSh → zIn → Prop} {PX : String → zSh → zIn → Prop} (F1 : Cond.methodLink own idx M.1 ∈ lw_good) (F : z_cS own idx M n) (h : z_Cx l D cy z0 M As g σ Post PX) (hn : As.length = n) (hst : st = As.reverse ++ rest) (hcat : (rest.map fun v => v.category).sum ≤ 8) (hR : M.2.2.2.2.1 + 1 ≤ R.frames ∧ 8 + (M.2.2.1 + 11) + M.2.2.2.2.2.2.2 ≤ R.locals) (hc : cells + M.2.2.2.2.2.1 ≤ R.cells ∧ slots + M.2.2.2.2.2.2.1 ≤ R.slots) (d : decode cc pc = .ok (.invokestatic idx, 3))
    (kx : ∀ (E : String) (g' : zSh) (σ' : zIn), PX E g' σ' → ∃ tgt, z_ct own hh pc E tgt ∧ ∀ q : Nat, z_V p l e R s m args below meth c nL D cy z0 (cells + M.2.2.2.2.2.1) (slots + M.2.2.2.2.2.2.1) Q (tgt) (L) ([.ref q]) g' σ')
    (kk : ∀ (v : Option Value) (g' : zSh) (σ' : zIn), Post v g' σ' → z_V p l e R s m args below meth c nL D cy z0 (cells + M.2.2.2.2.2.1) (slots + M.2.2.2.2.2.2.1) Q (pc + 3) (L) (v.toList ++ rest) g' σ') : z_V p l e R s m args below meth c nL D cy z0 cells slots Q (pc) (L) (st) g σ := by
  intro H locs ls hP hD hS hL
  have X0 := X
  obtain ⟨hx, hb', hml, hown, hts, hN, hK, hz, hr, hnm, hlk⟩ := X
  obtain ⟨⟨-, f2, f3, f4, f5⟩, f6⟩ := F
  subst hst
  have hpc : ∀ U : State, U.heap = H → s.WarmedH U.vm → z_Px D cy z0 As g σ (As).toArray U := fun U hU hW => ⟨rfl, ⟨by rw [hU]; exact z_hi_le hz hS.1, by rw [hU]; exact hP, hD, va_K.moved hW.alike hK, lw_nest_warm hW hN⟩, (zTh_at Y hU hW hS).1⟩
  refine z_callX (vx_runS (As := As) (rest := rest) ⟨hx, hb', hml, hown, hts⟩ h ⟨callB_of n hts (z_goodIn (w0 := .count 0) f2) rfl rfl rfl (hts _ f3) (hts _ F1) ⟨f4.1, f4.2, f5⟩ hR, hts _ f6⟩ ⟨z_Px_blind, hpc⟩ rfl hn hL.1.1 rfl (lv_room hcat) d hc) hS hL (fun E g' σ' hp => ?_) kk
  obtain ⟨tgt, k1, k2⟩ := kx E g' σ' hp
  exact ⟨tgt, fun H1 locs1 ce q9 r1 r2 r3 r4 => z_caught X0 Y htab k1 r1 r2 r3 r4, k2⟩
end ZY
