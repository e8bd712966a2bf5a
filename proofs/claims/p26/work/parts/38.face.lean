/-! methods that return or throw: their contract z_Cx, its entry, its ends, the throwing of a new exception -/
def lw_isMore : Cond → Bool
  | .declares _ => true
  | .castable _ _ => true
  | _ => false
def lw_more : List Cond := tables_1.filter lw_isMore
theorem lw_more_warm {s U : State} (hW : s.WarmedH U.vm) (h : ∀ w ∈ lw_more, va_Nw w s) : ∀ w ∈ lw_more, va_Nw w U := by
  intro w hw
  have h1 := h w hw
  have h2 := (List.mem_filter.mp hw).2
  cases w <;> first | (exact absurd h2 Bool.false_ne_true) | (exact va_Nw.warmD hW h1) | (exact va_Nw.warmC hW h1)
theorem lw_more_same {u U : State} (e : u.vm = U.vm) (h : ∀ w ∈ lw_more, va_Nw w u) : ∀ w ∈ lw_more, va_Nw w U := by
  intro w hw
  have h1 := h w hw
  have h2 := (List.mem_filter.mp hw).2
  cases w <;> first | (exact absurd h2 Bool.false_ne_true) | (exact va_tabs rfl e h1)
def z_thr (z0 : zRg) (U : State) : Prop := vx_Zq Bundle.tN "UNASSIGNED_STACK" Bundle.steD (z_A z0) U U.heap ∧ vx_Zq Bundle.tN "SUPPRESSED_SENTINEL" Bundle.listD (z_A z0) U U.heap ∧ (∀ w ∈ lw_more, va_Nw w U) ∧ ∀ (own : String) (k : Nat) (tx : String), Cond.stringRef own k tx ∈ tables_1 → ∃ a, vk_R own k tx a U
def z_Xc (D : va_G) (cy : Nat → ClassId) (z0 : zRg) (PX : String → zSh → zIn → Prop) : String → State → State → Prop := fun E st t => (∃ (g : zSh) (σ : zIn), PX E g σ ∧ va_P D vwCl (z_w cy g σ) t.heap ∧ va_D (z_A z0) (z_w cy g σ)) ∧ va_F (z_A z0) st t
def z_Px (D : va_G) (cy : Nat → ClassId) (z0 : zRg) (av : List Value) (g : zSh) (σ : zIn) : Array Value → State → Prop := va_Pc av (fun U => (z_hi z0 U.heap.size ∧ va_P D vwCl (z_w cy g σ) U.heap ∧ va_D (z_A z0) (z_w cy g σ) ∧ va_K D vwCl (z_tys cy) U ∧ ∀ w ∈ lw_nest, va_Nw w U) ∧ z_thr z0 U)
def z_Cx (l : Launch) (D : va_G) (cy : Nat → ClassId) (z0 : zRg) (M : zM) (av : List Value) (g : zSh) (σ : zIn) (Post : Option Value → zSh → zIn → Prop) (PX : String → zSh → zIn → Prop) : Prop :=
  vx_Met l M.1 (.code M.1 M.2.1 M.2.2.1 M.2.2.2.1 :: lw_good) { frames := M.2.2.2.2.1, cells := M.2.2.2.2.2.1, slots := M.2.2.2.2.2.2.1, locals := M.2.2.2.2.2.2.2 } (z_Px D cy z0 av g σ) (z_Qc D cy z0 Post) (z_Xc D cy z0 PX) M.2.2.2.2.2.1 M.2.2.2.2.2.2.1 (z_A z0)
theorem z_Px_blind {D : va_G} {cy : Nat → ClassId} {z0 : zRg} {av : List Value} {g : zSh} {σ : zIn} : FrameBlind (z_Px D cy z0 av g σ) := by
  intro a U gg mk h
  obtain ⟨h1, h2, h3, h4, h5, h6⟩ := h
  obtain ⟨q1, q2⟩ := z_Pc_blind (cy := cy) a U gg mk ⟨h1, h2⟩
  exact ⟨q1, q2, vx_Zq.moved (u := U) (U := U.calling gg mk a) (Vm.Alike.refl U.vm) h3, vx_Zq.moved (u := U) (U := U.calling gg mk a) (Vm.Alike.refl U.vm) h4, lw_more_same (u := U) (U := U.calling gg mk a) rfl h5, fun own k tx hm => let ⟨a9, h9⟩ := h6 own k tx hm; ⟨a9, vk_R.same (u := U) (U := U.calling gg mk a) rfl h9⟩⟩
/-- what a body that may throw has beside z_cx -/
def z_ex (l : Launch) (s : State) (c : Code) (z0 : zRg) : Prop := l.stackTraces = false ∧ (∀ x ∈ c.exceptionTable.toList, False) ∧ z_thr z0 s
abbrev zQx (M : zM) (below : List Frame) (D : va_G) (cy : Nat → ClassId) (z0 : zRg) (Post : Option Value → zSh → zIn → Prop) (PX : String → zSh → zIn → Prop) (args : Array Value) (s : State) : State → Prop := vx_MQ below (z_Qc D cy z0 Post) (z_Xc D cy z0 PX) args s M.2.2.2.2.2.1 M.2.2.2.2.2.2.1 (z_A z0)
theorem z_ofX {l : Launch} {D : va_G} {cy : Nat → ClassId} {z0 : zRg} {M : zM} {av : List Value} {g : zSh} {σ : zIn} {Post : Option Value → zSh → zIn → Prop} {PX : String → zSh → zIn → Prop} (hfl : l.stackTraces = false) (hpn : plainName M.1.cls = true) (hav : ∀ v ∈ av, v.category = 1) (hn : av.length ≤ M.2.2.1)
    (h : ∀ (p : Program) (e : Env) (s : State) (m : MethodId) (args : Array Value) (below : List Frame) (meth : Method) (c : Code), z_cx p s m args meth c M.1.cls M.2.1 M.2.2.1 M.2.2.2.1 M.1.name D cy z0 → z_ex l s c z0 →
      z_V p l e (zRm M) s m args below meth c M.2.2.1 D cy z0 0 0 (zQx M below D cy z0 Post PX args s) 0 (av.map some ++ List.replicate (M.2.2.1 - av.length) none) [] g σ) : z_Cx l D cy z0 M av g σ Post PX := by
  refine vx_ofW (cc := M.2.1) (maxL := M.2.2.1) (ret := M.2.2.2.1) hpn rfl ?_
  intro p e s m args below meth c s₁ B hml htab hv
  obtain ⟨rfl, ⟨hz, hP, hD, hK, hN⟩, hthr⟩ := hv
  have hts := atoms_spec (ws := .code M.1 M.2.1 M.2.2.1 M.2.2.2.1 :: lw_good) B.pre
  have hown : s.vm.findClass M.1.cls = some m.cls := findClass_of_methodNamed B.named
  have hin : meth.name = M.1.name := (name_of_methodNamed B.named B.method).1
  have hl0 := lv_entry av (n := M.2.2.1) (by rw [z_sl_len av hav]; exact hn)
  rw [lg_entry_eq]
  generalize (lg_sl av ++ List.replicate (M.2.2.1 - (lg_sl av).length) Slot.unset).toArray = ls at hl0 ⊢
  refine h p e s m av.toArray below meth c ⟨B.exec, B.bytes, hml, hown, fun w hw => hts w (List.mem_cons_of_mem _ hw), hN, hK, hz, B.returns, hin, B.notSynchronized⟩ ⟨hfl, htab, hthr⟩ s.heap [] ls hP hD va_S.rf ⟨⟨hl0.1, hl0.2.1, fun q hq => by cases hq⟩, fun i v hi => ?_, fun i v hi => ?_⟩
  · have hi' : av[i]? = some v := by
      by_cases hlt : i < av.length
      · rw [List.getElem?_append_left (by simpa using hlt), List.getElem?_map] at hi
        cases hq : av[i]? with
        | none => rw [hq] at hi; cases hi
        | some w => rw [hq] at hi; cases hi; rfl
      · rw [List.getElem?_append_right (by simpa using Nat.not_lt.mp hlt)] at hi
        have := List.mem_of_getElem? hi
        simp at this
    have := hl0.2.2 (0 + i, v) (z_lv_args av 0 hav i v hi')
    simpa using this
  · have hi' : some v ∈ av.map some ++ List.replicate (M.2.2.1 - av.length) (none : Option Value) := List.mem_of_getElem? hi
    rcases List.mem_append.mp hi' with h1 | h1
    · obtain ⟨w, hw, e⟩ := List.mem_map.mp h1
      cases e; exact Or.inl (hav v hw)
    · simp at h1
section ZX
variable {p : Program} {l : Launch} {e : Env} {R : Room} {s : State} {m : MethodId} {args : Array Value} {below : List Frame} {meth : Method} {c : Code} {cells slots : Nat} {own nm : String} {cc : ByteArray} {nL : Nat} {ret : Option FieldType} {D : va_G} {cy : Nat → ClassId} {z0 : zRg} {pc rc rs : Nat} {L : List (Option Value)} {st : List Value} {g : zSh} {σ : zIn} {Post : Option Value → zSh → zIn → Prop} {PX : String → zSh → zIn → Prop}
/-- an end that returns -/
theorem z_rx (k : z_V p l e R s m args below meth c nL D cy z0 cells slots (MQ below (z_Qc D cy z0 Post) args s rc rs (z_A z0)) pc L st g σ) : z_V p l e R s m args below meth c nL D cy z0 cells slots (vx_MQ below (z_Qc D cy z0 Post) (z_Xc D cy z0 PX) args s rc rs (z_A z0)) pc L st g σ :=
  fun H locs ls hP hD hS hL => vx_ret (k H locs ls hP hD hS hL)
theorem z_throw (X : z_cx p s m args meth c own cc nL ret nm D cy z0) (Y : z_ex l s c z0) {cls text : String} {names : List String} {ik is ic : Nat} (hcls : Bundle.fit cls = true) (hnames : ∀ n ∈ names, Bundle.fit n = true)
    (hk : Cond.classLink own ik cls ∈ lw_good) (hini : Cond.initialized cls ∈ lw_good) (hstr : Cond.stringRef own is text ∈ tables_1) (hat : ∀ w ∈ vx_atS own ic cls names, w ∈ lw_good ∨ w ∈ lw_more)
    (d0 : decode cc pc = .ok (.new ik, 3)) (d3 : decode cc (pc + 3) = .ok (.dup, 1)) (d4 : decode cc (pc + 4) = .ok (.ldc is, 2)) (d6 : decode cc (pc + 6) = .ok (.invokespecial ic, 3)) (d9 : decode cc (pc + 9) = .ok (.athrow, 1))
    (hRf : names.length + 3 < R.frames) (hRl : 13 * (names.length + 1) + 43 ≤ R.locals) (hRc : cells + 1 ≤ R.cells) (hRs : slots + 6 ≤ R.slots) (hc : cells + 1 ≤ rc) (hs : slots + 6 ≤ rs) (hp : PX cls g σ) :
    z_V p l e R s m args below meth c nL D cy z0 cells slots (vx_MQ below (z_Qc D cy z0 Post) (z_Xc D cy z0 PX) args s rc rs (z_A z0)) pc L [] g σ := by
  intro H locs ls hP hD hS hL
  obtain ⟨hx, hb, hml, hown, hts, hN, hK, hz, hr, hnm, hlk⟩ := X
  obtain ⟨hfl, htab, hU, hSn, hmo, hstr2⟩ := Y
  have hmt : ∀ w ∈ lw_more, w.onTables = true := by
    intro w hw
    have h2 := (List.mem_filter.mp hw).2
    cases w <;> first | (exact absurd h2 Bool.false_ne_true) | rfl
  have hat2 : ∀ w ∈ vx_atS own ic cls names, w.before args s = true := fun w hw => (hat w hw).elim (fun h => hts w h) (fun h => (hmo w h).use (hmt w h))
  have hgg : ∀ w ∈ lw_good, vx_ot w = true := by
    intro w hw
    unfold vx_ot; rw [(List.mem_filter.mp hw).2]; simp
  have hgood : ∀ w ∈ Cond.classLink own ik cls :: Cond.initialized cls :: vx_atS own ic cls names, vx_ot w = true := by
    intro w hw
    rcases List.mem_cons.mp hw with rfl | hw
    · exact hgg _ hk
    rcases List.mem_cons.mp hw with rfl | hw
    · exact hgg _ hini
    rcases hat w hw with h | h
    · exact hgg _ h
    · unfold vx_ot; rw [hmt w h]; simp
  obtain ⟨sa, hsa⟩ := hstr2 own is text hstr
  refine vx_throwS (ls := ls) (rest := []) hx hb hfl hown hcls hnames (hts _ hk) (hts _ hini) hsa hat2 hgood hU hSn hS (hL.1.1.trans hml.symm) d0 d3 d4 d6 d9 (fun x hx => (htab x hx).elim) hRf (by simpa using hRl) hRc hRs hlk (fun t _ hsz hk2 => ⟨⟨g, σ, hp, hP.kept (fun k q hq => hk2 _ (vx_lt hP hq)), hD⟩, Nat.le_trans hS.1 hsz, fun q h1 h2 => ?_⟩) hS.2.2 hc hs
  rw [hk2 q (Nat.lt_of_lt_of_le h1 hS.1)]; exact hS.2.1 q h1 h2
theorem z_throwW (X : z_cx p s m args meth c own cc nL ret nm D cy z0) (Y : z_ex l s c z0) {cls text : String} {names : List String} {ik is ic : Nat} (hcls : Bundle.fit cls = true) (hnames : ∀ n ∈ names, Bundle.fit n = true)
    (hk : Cond.classLink own ik cls ∈ lw_good) (hini : Cond.initialized cls ∈ lw_good) (hstr : Cond.stringRef own is text ∈ tables_1) (hat : ∀ w ∈ vx_atS own ic cls names, w ∈ lw_good ∨ w ∈ lw_more)
    (d0 : decode cc pc = .ok (.new ik, 3)) (d3 : decode cc (pc + 3) = .ok (.dup, 1)) (d4 : decode cc (pc + 4) = .ok (.ldc_w is, 3)) (d7 : decode cc (pc + 7) = .ok (.invokespecial ic, 3)) (d10 : decode cc (pc + 10) = .ok (.athrow, 1))
    (hRf : names.length + 3 < R.frames) (hRl : 13 * (names.length + 1) + 43 ≤ R.locals) (hRc : cells + 1 ≤ R.cells) (hRs : slots + 6 ≤ R.slots) (hc : cells + 1 ≤ rc) (hs : slots + 6 ≤ rs) (hp : PX cls g σ) :
    z_V p l e R s m args below meth c nL D cy z0 cells slots (vx_MQ below (z_Qc D cy z0 Post) (z_Xc D cy z0 PX) args s rc rs (z_A z0)) pc L [] g σ := by
  intro H locs ls hP hD hS hL
  obtain ⟨hx, hb, hml, hown, hts, hN, hK, hz, hr, hnm, hlk⟩ := X
  obtain ⟨hfl, htab, hU, hSn, hmo, hstr2⟩ := Y
  have hmt : ∀ w ∈ lw_more, w.onTables = true := by
    intro w hw
    have h2 := (List.mem_filter.mp hw).2
    cases w <;> first | (exact absurd h2 Bool.false_ne_true) | rfl
  have hat2 : ∀ w ∈ vx_atS own ic cls names, w.before args s = true := fun w hw => (hat w hw).elim (fun h => hts w h) (fun h => (hmo w h).use (hmt w h))
  have hgg : ∀ w ∈ lw_good, vx_ot w = true := by
    intro w hw
    unfold vx_ot; rw [(List.mem_filter.mp hw).2]; simp
  have hgood : ∀ w ∈ Cond.classLink own ik cls :: Cond.initialized cls :: vx_atS own ic cls names, vx_ot w = true := by
    intro w hw
    rcases List.mem_cons.mp hw with rfl | hw
    · exact hgg _ hk
    rcases List.mem_cons.mp hw with rfl | hw
    · exact hgg _ hini
    rcases hat w hw with h | h
    · exact hgg _ h
    · unfold vx_ot; rw [hmt w h]; simp
  obtain ⟨sa, hsa⟩ := hstr2 own is text hstr
  refine vx_throwSW (ls := ls) (rest := []) hx hb hfl hown hcls hnames (hts _ hk) (hts _ hini) hsa hat2 hgood hU hSn hS (hL.1.1.trans hml.symm) d0 d3 d4 d7 d10 (fun x hx => (htab x hx).elim) hRf (by simpa using hRl) hRc hRs hlk (fun t _ hsz hk2 => ⟨⟨g, σ, hp, hP.kept (fun k q hq => hk2 _ (vx_lt hP hq)), hD⟩, Nat.le_trans hS.1 hsz, fun q h1 h2 => ?_⟩) hS.2.2 hc hs
  rw [hk2 q (Nat.lt_of_lt_of_le h1 hS.1)]; exact hS.2.1 q h1 h2
end ZX
/-- the k-th of the exceptions that a method throws, 0: none -/
def zXk (nms : List String) (k : Nat) (E : String) : Prop := ∃ j, k = j + 1 ∧ nms[j]? = some E
def zENs : List String := ["java/lang/RuntimeException", "java/lang/Exception"]
theorem zat_IllegalArgumentException : ∀ w ∈ vx_atS "Codewordcable" 76 "java/lang/IllegalArgumentException" zENs, w ∈ lw_good ∨ w ∈ lw_more := by
  have h : (vx_atS "Codewordcable" 76 "java/lang/IllegalArgumentException" zENs).all (fun w => decide (w ∈ lw_good) || decide (w ∈ lw_more)) = true := by decide +kernel
  intro w hw
  have := List.all_eq_true.mp h w hw
  simpa using this
theorem zat_IllegalStateException : ∀ w ∈ vx_atS "Codewordcable" 87 "java/lang/IllegalStateException" zENs, w ∈ lw_good ∨ w ∈ lw_more := by
  have h : (vx_atS "Codewordcable" 87 "java/lang/IllegalStateException" zENs).all (fun w => decide (w ∈ lw_good) || decide (w ∈ lw_more)) = true := by decide +kernel
  intro w hw
  have := List.all_eq_true.mp h w hw
  simpa using this
theorem zat_IndexOutOfBoundsException : ∀ w ∈ vx_atS "Codewordcable" 99 "java/lang/IndexOutOfBoundsException" zENs, w ∈ lw_good ∨ w ∈ lw_more := by
  have h : (vx_atS "Codewordcable" 99 "java/lang/IndexOutOfBoundsException" zENs).all (fun w => decide (w ∈ lw_good) || decide (w ∈ lw_more)) = true := by decide +kernel
  intro w hw
  have := List.all_eq_true.mp h w hw
  simpa using this