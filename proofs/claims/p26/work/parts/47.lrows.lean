/-! the law's wrappers: contracts of methods that catch; a call that may throw, caught; calls of them -/
abbrev zHs : Type := List (Nat × Nat × Nat × Nat)
def zNc2 : List (String × String) := [("java/lang/IllegalArgumentException", "java/lang/IndexOutOfBoundsException"), ("java/lang/IllegalStateException", "java/lang/IndexOutOfBoundsException"), ("java/lang/IllegalStateException", "java/lang/IllegalArgumentException")]
def zTh (z0 : zRg) (U : State) : Prop := z_thr z0 U ∧ ∀ q ∈ zNc2, va_Nc q.1 q.2 U
theorem zTh_at {z0 : zRg} {s U : State} {H : Heap} {locs : List Loc} (h : zTh z0 s) (hU : U.heap = H) (hW : s.WarmedH U.vm) (hS : va_S (z_A z0) s.heap H locs) : zTh z0 U := by
  obtain ⟨⟨h1, h2, h3, h4⟩, h5⟩ := h
  have hk : ∀ a : Nat, a < s.heap.size → ¬ z_A z0 a → U.heap[a]? = s.heap[a]? := fun a q1 q2 => by rw [hU]; exact hS.2.1 a q1 q2
  exact ⟨⟨vx_Zq.moved hW.alike (h1.kept hk), vx_Zq.moved hW.alike (h2.kept hk), lw_more_warm hW h3, fun own k tx hm => let ⟨a9, h9⟩ := h4 own k tx hm; ⟨a9, vk_R.warm hW h9⟩⟩, fun q hq => va_Nc.moved hW.alike (h5 q hq)⟩
def z_Py (D : va_G) (cy : Nat → ClassId) (z0 : zRg) (av : List Value) (g : zSh) (σ : zIn) : Array Value → State → Prop := va_Pc av (fun U => (z_hi z0 U.heap.size ∧ va_P D vwCl (z_w cy g σ) U.heap ∧ va_D (z_A z0) (z_w cy g σ) ∧ va_K D vwCl (z_tys cy) U ∧ ∀ w ∈ lw_nest, va_Nw w U) ∧ zTh z0 U)
theorem z_Py_blind {D : va_G} {cy : Nat → ClassId} {z0 : zRg} {av : List Value} {g : zSh} {σ : zIn} : FrameBlind (z_Py D cy z0 av g σ) := by
  intro a U gg mk h
  obtain ⟨h1, h2, h3, h4⟩ := h
  obtain ⟨q1, q2, q3⟩ := z_Px_blind (cy := cy) a U gg mk ⟨h1, h2, h3⟩
  exact ⟨q1, q2, q3, fun q hq => va_Nc.moved (u := U) (U := U.calling gg mk a) (Vm.Alike.refl U.vm) (h4 q hq)⟩
def z_Cw (l : Launch) (D : va_G) (cy : Nat → ClassId) (z0 : zRg) (M : zM) (hh : zHs) (av : List Value) (g : zSh) (σ : zIn) (Post : Option Value → zSh → zIn → Prop) : Prop :=
  Met l M.1 (.codeWith M.1 M.2.1 M.2.2.1 M.2.2.2.1 hh :: lw_good) { frames := M.2.2.2.2.1, cells := M.2.2.2.2.2.1, slots := M.2.2.2.2.2.2.1, locals := M.2.2.2.2.2.2.2 } (z_Py D cy z0 av g σ) (z_Qc D cy z0 Post) M.2.2.2.2.2.1 M.2.2.2.2.2.2.1 (z_A z0)
theorem z_Cw.mono {l : Launch} {D : va_G} {cy : Nat → ClassId} {z0 : zRg} {M : zM} {hh : zHs} {av : List Value} {g : zSh} {σ : zIn} {P P2 : Option Value → zSh → zIn → Prop} (h : z_Cw l D cy z0 M hh av g σ P) (hP : ∀ v g' σ', P v g' σ' → P2 v g' σ') : z_Cw l D cy z0 M hh av g σ P2 := by
  unfold z_Cw Met at h ⊢
  refine MetFree.mono h (fun _ _ q => q) (fun _ _ _ _ _ q => q) (fun a s o s' _ q => ?_)
  obtain ⟨⟨⟨v, g', σ', q1, q2, q3⟩, q4⟩, q5⟩ := q
  exact ⟨⟨⟨v, g', σ', q1, hP _ _ _ q2, q3⟩, q4⟩, q5⟩
theorem z_Ct.mono {l : Launch} {D : va_G} {cy : Nat → ClassId} {z0 : zRg} {M : zM} {av : List Value} {g : zSh} {σ : zIn} {P P2 : Option Value → zSh → zIn → Prop} (h : z_Ct l D cy z0 M av g σ P) (hP : ∀ v g' σ', P v g' σ' → P2 v g' σ') : z_Ct l D cy z0 M av g σ P2 := by
  unfold z_Ct Met at h ⊢
  refine MetFree.mono h (fun _ _ q => q) (fun _ _ _ _ _ q => q) (fun a s o s' _ q => ?_)
  obtain ⟨⟨⟨v, g', σ', q1, q2, q3⟩, q4⟩, q5⟩ := q
  exact ⟨⟨⟨v, g', σ', q1, hP _ _ _ q2, q3⟩, q4⟩, q5⟩
theorem z_ofW {l : Launch} {D : va_G} {cy : Nat → ClassId} {z0 : zRg} {M : zM} {hh : zHs} {av : List Value} {g : zSh} {σ : zIn} {Post : Option Value → zSh → zIn → Prop} (hpn : plainName M.1.cls = true) (hav : ∀ v ∈ av, v.category = 1) (hn : av.length ≤ M.2.2.1)
    (h : ∀ (p : Program) (e : Env) (s : State) (m : MethodId) (args : Array Value) (below : List Frame) (meth : Method) (c : Code), z_cx p s m args meth c M.1.cls M.2.1 M.2.2.1 M.2.2.2.1 M.1.name D cy z0 → zTh z0 s → c.exceptionTable.toList = tableOf hh →
      z_V p l e (zRm M) s m args below meth c M.2.2.1 D cy z0 0 0 (zQm M below D cy z0 Post args s) 0 (av.map some ++ List.replicate (M.2.2.1 - av.length) none) [] g σ) : z_Cw l D cy z0 M hh av g σ Post := by
  refine va_MetW (hh := hh) (cc := M.2.1) (maxL := M.2.2.1) (ret := M.2.2.2.1) hpn rfl ?_
  intro p e s m args below meth c s₁ B hml hv
  obtain ⟨rfl, ⟨hz, hP, hD, hK, hN⟩, hthr⟩ := hv
  have hts := atoms_spec (ws := .codeWith M.1 M.2.1 M.2.2.1 M.2.2.2.1 hh :: lw_good) B.pre
  have htab := vx_table (x := M.1) B (hts _ List.mem_cons_self)
  have hown : s.vm.findClass M.1.cls = some m.cls := findClass_of_methodNamed B.named
  have hin : meth.name = M.1.name := (name_of_methodNamed B.named B.method).1
  have hl0 := lv_entry av (n := M.2.2.1) (by rw [z_sl_len av hav]; exact hn)
  rw [lg_entry_eq]
  generalize (lg_sl av ++ List.replicate (M.2.2.1 - (lg_sl av).length) Slot.unset).toArray = ls at hl0 ⊢
  refine h p e s m av.toArray below meth c ⟨B.exec, B.bytes, hml, hown, fun w hw => hts w (List.mem_cons_of_mem _ hw), hN, hK, hz, B.returns, hin, B.notSynchronized⟩ hthr htab s.heap [] ls hP hD va_S.rf ⟨⟨hl0.1, hl0.2.1, fun q hq => by cases hq⟩, fun i v hi => ?_, fun i v hi => ?_⟩
  · have hi' : av[i]? = some v := by
      by_cases hlt : i < av.length
      · rw [List.getElem?_append_left (by simpa using hlt), List.getElem?_map] at hi
        cases hq : av[i]? with
        | none => rw [hq] at hi; cases hi
        | some w => rw [hq] at hi; cases hi; rfl
      · rw [List.getElem?_append_right (by simpa using Nat.not_lt.mp hlt)] at hi
        have := List.mem_of_getElem? hi
        simp at this
    have := hl0.2.2 (0 + i, v) (z_lv_args av 0 hav i v hi')
    simpa using this
  · have hi' : some v ∈ av.map some ++ List.replicate (M.2.2.1 - av.length) (none : Option Value) := List.mem_of_getElem? hi
    rcases List.mem_append.mp hi' with h1 | h1
    · obtain ⟨w, hw, e⟩ := List.mem_map.mp h1
      cases e; exact Or.inl (hav v hw)
    · simp at h1
/-- the handler that takes an E thrown at pc -/
def z_ct (own : String) (hh : zHs) (pc : Nat) (E : String) (tgt : Nat) : Prop := ∃ (pre : zHs) (x : Nat × Nat × Nat × Nat) (suf : zHs), hh = pre ++ x :: suf ∧ covers (⟨x.1, x.2.1, x.2.2.1, x.2.2.2⟩ : ExceptionTableEntry) pc = true ∧ x.2.2.2 ≠ 0 ∧ x.2.2.1 = tgt ∧ Cond.classLink own x.2.2.2 E ∈ lw_good ∧ Cond.castable E E ∈ lw_more ∧ ∀ z ∈ pre, z.2.2.2 ≠ 0 ∧ ∃ nm, Cond.classLink own z.2.2.2 nm ∈ lw_good ∧ (E, nm) ∈ zNc2
section ZW
variable {p : Program} {l : Launch} {e : Env} {R : Room} {s : State} {m : MethodId} {args : Array Value} {below : List Frame} {meth : Method} {c : Code} {cells slots : Nat} {Q : State → Prop} {own nm : String} {cc : ByteArray} {nL : Nat} {ret : Option FieldType} {D : va_G} {cy : Nat → ClassId} {z0 : zRg} {pc : Nat} {L : List (Option Value)} {st : List Value} {g : zSh} {σ : zIn}
theorem z_caught (X : z_cx p s m args meth c own cc nL ret nm D cy z0) (Y : zTh z0 s) {hh : zHs} (htab : c.exceptionTable.toList = tableOf hh) {E : String} {tgt : Nat} (F : z_ct own hh pc E tgt) {H : Heap} {locs : List Loc} {ls : Array Slot} {rest : List Value} {ce : Cell} {q : Addr} (hcell : H[q]? = some ce) (hv : ce.vm = .none) (hcl : s.vm.findClass E = some ce.cls)
    (kk : W p l e R s m args below meth c H locs cells slots Q (F0 m tgt ls [.ref q])) : vx_W p l e R s m args below meth c H locs cells slots Q (F0 m pc ls rest) q := by
  obtain ⟨hx, hb', hml, hown, hts, hN, hK, hz, hr, hnm, hlk⟩ := X
  obtain ⟨pre, x, suf, f1, f2, f3, f4, f5, f6, f7⟩ := F
  subst f4
  have hmt : ∀ w ∈ lw_more, w.onTables = true := by
    intro w hw
    have h2 := (List.mem_filter.mp hw).2
    cases w <;> first | (exact absurd h2 Bool.false_ne_true) | rfl
  refine vx_catch hown (tableOf pre) ⟨x.1, x.2.1, x.2.2.1, x.2.2.2⟩ (tableOf suf) (by rw [htab, f1]; simp [tableOf]) (fun z hz => ?_) f2 f3 (hts _ f5) ((Y.1.2.2.1 _ f6).use (hmt _ f6)) hcell hv hcl kk
  obtain ⟨z', hz', rfl⟩ := List.mem_map.mp hz
  obtain ⟨g1, nm', g2, g3⟩ := f7 z' hz'
  exact Or.inr ⟨g1, nm', hts _ g2, Y.2 _ g3⟩
theorem z_callX {H : Heap} {locs : List Loc} {ls : Array Slot} {mc ms : Nat} {st0 rest : List Value} {a : Array Value} {Post : Option Value → zSh → zIn → Prop} {PX : String → zSh → zIn → Prop} (hr : vx_Run p l e R s m args below meth c H locs cells slots mc ms (F0 m pc ls st0) rest (z_Qc D cy z0 Post a) (z_Xc D cy z0 PX) (z_A z0)) (hS : va_S (z_A z0) s.heap H locs) (hL : z_L ls nL L)
    (kx : ∀ (E : String) (g' : zSh) (σ' : zIn), PX E g' σ' → ∃ tgt, (∀ (H1 : Heap) (locs1 : List Loc) (ce : Cell) (q : Addr), H1[q]? = some ce → ce.vm = .none → s.vm.findClass E = some ce.cls → W p l e R s m args below meth c H1 locs1 (cells + mc) (slots + ms) Q (F0 m tgt ls [.ref q]) → vx_W p l e R s m args below meth c H1 locs1 (cells + mc) (slots + ms) Q (F0 m pc ls rest) q) ∧ ∀ q : Nat, z_V p l e R s m args below meth c nL D cy z0 (cells + mc) (slots + ms) Q tgt L [.ref q] g' σ')
    (kk : ∀ (v : Option Value) (g' : zSh) (σ' : zIn), Post v g' σ' → z_V p l e R s m args below meth c nL D cy z0 (cells + mc) (slots + ms) Q (pc + 3) (L) (v.toList ++ rest) g' σ') : W p l e R s m args below meth c H locs cells slots Q (F0 m pc ls st0) := by
  intro T hT X
  have hS2 : ∀ (L' : List Loc) (t T' : State) (st₀ : State), st₀.heap = H → va_F (z_A z0) st₀ t → T'.heap = t.heap → (∀ z ∈ L', z_A z0 z.base) → va_S (z_A z0) s.heap T'.heap (locs ++ L') := by
    intro L' t T' st₀ h0 hF e1 hL'
    obtain ⟨hz, hk⟩ := hF
    rw [h0] at hz hk
    exact ⟨Nat.le_trans hS.1 (by rw [e1]; exact hz), fun q h1 h2 => by rw [e1, hk q (Nat.lt_of_lt_of_le h1 hS.1) h2]; exact hS.2.1 q h1 h2, fun q hq => by
      rcases List.mem_append.mp hq with h | h
      · exact hS.2.2 q h
      · exact hL' q h⟩
  rcases hr T hT X with ⟨v, st₀, t, T', L', h0, X', hL', e1, e2, ⟨⟨v', g', σ', hv, hp, hP1, hD1⟩, hF⟩, stp⟩ | ⟨q, st₀, t, T', L', E, ce, h0, X', hL', e1, e2, ⟨⟨g', σ', hp, hP1, hD1⟩, hF⟩, hce, hcv, hcl, stp⟩
  · cases hv
    obtain ⟨t2, a1, b1⟩ := kk v g' σ' hp T'.heap (locs ++ L') ls (by rw [e1]; exact hP1) hD1 (hS2 L' t T' st₀ h0 hF e1 hL') hL T' rfl X'
    exact ⟨t2, stp t2 a1, b1⟩
  · obtain ⟨tgt, k1, k2⟩ := kx E g' σ' hp
    obtain ⟨t2, a1, b1⟩ := k1 T'.heap (locs ++ L') ce q (by rw [e1]; exact hce) hcv hcl (k2 q T'.heap (locs ++ L') ls (by rw [e1]; exact hP1) hD1 (hS2 L' t T' st₀ h0 hF e1 hL') hL) T' rfl X'
    exact ⟨t2, stp.trans a1, b1⟩
theorem z_runVX (X : z_cx p s m args meth c own cc nL ret nm D cy z0) (Y : zTh z0 s) {hh : zHs} (htab : c.exceptionTable.toList = tableOf hh) {idx n b ci : Nat} {M : zM} {As rest : List Value} {Post : Option Value → zSh → zIn → Prop} {PX : String → zSh → zIn → Prop} (F1 : Cond.methodLink own idx M.1 ∈ lw_good) (F : z_cV own idx M n ci) (h : z_Cx l D cy z0 M (.ref (g.2.1 b) :: As) g σ Post PX) (ho : z_ob g b ci) (hn : As.length = n) (hst : st = As.reverse ++ .ref (g.2.1 b) :: rest) (hcat : (rest.map fun v => v.category).sum ≤ 8) (hR : M.2.2.2.2.1 + 1 ≤ R.frames ∧ 8 + (M.2.2.1 + 11) + M.2.2.2.2.2.2.2 ≤ R.locals) (hc : cells + M.2.2.2.2.2.1 ≤ R.cells ∧ slots + M.2.2.2.2.2.2.1 ≤ R.slots) (d : decode cc pc = .ok (.invokevirtual idx, 3))
    (kx : ∀ (E : String) (g' : zSh) (σ' : zIn), PX E g' σ' → ∃ tgt, z_ct own hh pc E tgt ∧ ∀ q : Nat, z_V p l e R s m args below meth c nL D cy z0 (cells + M.2.2.2.2.2.1) (slots + M.2.2.2.2.2.2.1) Q tgt L [.ref q] g' σ')
    (kk : ∀ (v : Option Value) (g' : zSh) (σ' : zIn), Post v g' σ' → z_V p l e R s m args below meth c nL D cy z0 (cells + M.2.2.2.2.2.1) (slots + M.2.2.2.2.2.2.1) Q (pc + 3) (L) (v.toList ++ rest) g' σ') : z_V p l e R s m args below meth c nL D cy z0 cells slots Q (pc) (L) (st) g σ := by
  intro H locs ls hP hD hS hL
  have X0 := X
  obtain ⟨hx, hb', hml, hown, hts, hN, hK, hz, hr, hnm, hlk⟩ := X
  obtain ⟨⟨-, f2, f3, f4, f5⟩, f6, f7, f8, f9⟩ := F
  subst hst
  have hpc : ∀ U : State, U.heap = H → s.WarmedH U.vm → z_Px D cy z0 (.ref (g.2.1 b) :: As) g σ ((.ref (g.2.1 b) :: As)).toArray U := fun U hU hW => ⟨rfl, ⟨by rw [hU]; exact z_hi_le hz hS.1, by rw [hU]; exact hP, hD, va_K.moved hW.alike hK, lw_nest_warm hW hN⟩, (zTh_at Y hU hW hS).1⟩
  obtain ⟨q, q1, q2⟩ := z_get_k (cy := cy) (σ := σ) ho.1
  rw [z_cel_ob ho.2 f8] at q2
  obtain ⟨C9, hC1, hC2⟩ : ∃ r : vw_C, vwCl[ci]? = some r ∧ r.1 = M.1.cls := by
    cases hq : vwCl[ci]? with
    | none => rw [hq] at f9; cases f9
    | some r => rw [hq] at f9; exact ⟨r, rfl, Option.some.inj f9⟩
  have hrec := va_recv hK hP hC1 q2
  rw [hC2] at hrec
  refine z_callX (vx_runV (C := M.1.cls) (b := g.2.1 b) (As := As) (rest := rest) ⟨hx, hb', hml, hown, hts⟩ h ⟨callB_of n hts (z_goodIn (w0 := .count 0) f2) rfl rfl rfl (hts _ f3) (hts _ F1) ⟨f4.1, f4.2, f5⟩ hR, hts _ f6, hts _ f7⟩ ⟨z_Px_blind, hrec, hpc⟩ rfl hn hL.1.1 rfl (lv_room hcat) d hc) hS hL (fun E g' σ' hp => ?_) kk
  obtain ⟨tgt, k1, k2⟩ := kx E g' σ' hp
  exact ⟨tgt, fun H1 locs1 ce q9 r1 r2 r3 r4 => z_caught X0 Y htab k1 r1 r2 r3 r4, k2⟩
def z_cW (own : String) (idx : Nat) (M : zM) (hh : zHs) (n : Nat) : Prop := Cond.methodLink own idx M.1 ∈ lw_good ∧ Cond.codeWith M.1 M.2.1 M.2.2.1 M.2.2.2.1 hh ∈ lw_good ∧ Cond.initialized M.1.cls ∈ lw_good ∧ (M.1.cls ≠ "java/lang/invoke/MethodHandle" ∧ M.1.cls ≠ "java/lang/invoke/VarHandle") ∧ (parseMethodDescriptor M.1.desc).map (fun d => d.parameters.length) = some n ∧ Cond.static M.1 ∈ lw_good
theorem z_goodInW {M : zM} {hh : zHs} (h : Cond.codeWith M.1 M.2.1 M.2.2.1 M.2.2.2.1 hh ∈ lw_good) : GoodIn lw_good (.codeWith M.1 M.2.1 M.2.2.1 M.2.2.2.1 hh :: lw_good) := by
  intro w hw
  rcases List.mem_cons.mp hw with rfl | hw
  · exact ⟨h, good_of_word (List.mem_filter.mp h).2⟩
  · exact ⟨hw, good_of_word (List.mem_filter.mp hw).2⟩
theorem z_runSW (X : z_cx p s m args meth c own cc nL ret nm D cy z0) (Y : zTh z0 s) {hh : zHs} {idx n : Nat} {M : zM} {As rest : List Value} {Post : Option Value → zSh → zIn → Prop} (F : z_cW own idx M hh n) (h : z_Cw l D cy z0 M hh As g σ Post) (hn : As.length = n) (hst : st = As.reverse ++ rest) (hcat : (rest.map fun v => v.category).sum ≤ 8) (hR : M.2.2.2.2.1 + 1 ≤ R.frames ∧ 8 + (M.2.2.1 + 11) + M.2.2.2.2.2.2.2 ≤ R.locals) (hc : cells + M.2.2.2.2.2.1 ≤ R.cells ∧ slots + M.2.2.2.2.2.2.1 ≤ R.slots) (d : decode cc pc = .ok (.invokestatic idx, 3)) (kk : ∀ (v : Option Value) (g' : zSh) (σ' : zIn), Post v g' σ' → z_V p l e R s m args below meth c nL D cy z0 (cells + M.2.2.2.2.2.1) (slots + M.2.2.2.2.2.2.1) Q (pc + 3) (L) (v.toList ++ rest) g' σ') : z_V p l e R s m args below meth c nL D cy z0 cells slots Q (pc) (L) (st) g σ := by
  intro H locs ls hP hD hS hL
  obtain ⟨hx, hb', hml, hown, hts, hN, hK, hz, hr, hnm, hlk⟩ := X
  obtain ⟨f1, f2, f3, f4, f5, f6⟩ := F
  subst hst
  have hpc : ∀ U : State, U.heap = H → s.WarmedH U.vm → z_Py D cy z0 As g σ (As).toArray U := fun U hU hW => ⟨rfl, ⟨by rw [hU]; exact z_hi_le hz hS.1, by rw [hU]; exact hP, hD, va_K.moved hW.alike hK, lw_nest_warm hW hN⟩, zTh_at Y hU hW hS⟩
  exact z_call (vx_runSW (hh := hh) (As := As) (rest := rest) ⟨hx, hb', hml, hown, hts⟩ h ⟨⟨rfl, rfl, hR.1, hR.2, pay_in hts (z_goodInW f2), List.mem_cons_self⟩, hts _ f2, hts _ f3, f4, fun sig h9 => by rw [h9] at f5; exact (Option.some.inj f5).symm, hts _ f1, hts _ f6⟩ ⟨z_Py_blind, hpc⟩ rfl hn hL.1.1 rfl (lv_room hcat) d hc) hS hL kk
end ZW
