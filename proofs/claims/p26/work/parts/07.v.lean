/-! THE JUDGEMENT z_V: the machine at a pc, locals and stack as lists, the heap as a shape g (ids, their addresses, kinds, lengths, references) and the numbers σ (id, place). All own rows. -/
abbrev zSh : Type := List Nat × (Nat → Nat) × (Nat → Nat) × (Nat → Nat) × (Nat → Nat → Nat)
abbrev zIn : Type := Nat → Nat → Int32
abbrev zM : Type := MethodName × ByteArray × Nat × Option FieldType × Nat × Nat × Nat × Nat
def lw_good : List Cond := lw_tbl.filter goodWord
def lw_isNest : Cond → Bool
  | .fieldLinkNest _ _ _ _ _ _ => true
  | .methodLinkNest _ _ _ _ => true
  | .arrayOver (.object _) => true
  | .castable _ _ => true
  | _ => false
def lw_nest : List Cond := tables_1.filter lw_isNest
theorem z_gd {w : Cond} (i : Nat) (h : lw_tbl[i]? = some w) (hg : goodWord w = true) : w ∈ lw_good := List.mem_filter.mpr ⟨List.mem_of_getElem? h, hg⟩
theorem z_ns {w : Cond} (i : Nat) (h : tables_1[i]? = some w) (hg : lw_isNest w = true) : w ∈ lw_nest := List.mem_filter.mpr ⟨List.mem_of_getElem? h, hg⟩
theorem lw_nest_warm {s U : State} (hW : s.WarmedH U.vm) (h : ∀ w ∈ lw_nest, va_Nw w s) : ∀ w ∈ lw_nest, va_Nw w U := by
  intro w hw
  have h1 := h w hw
  have h2 := (List.mem_filter.mp hw).2
  cases w <;> first | (exact absurd h2 Bool.false_ne_true) | (exact va_Nw.warmF hW h1) | (exact va_Nw.warmM hW h1) | (exact va_Nw.warmC hW h1) | skip
  case arrayOver t =>
    cases t <;> first | (exact absurd h2 Bool.false_ne_true) | (exact va_AO.moved hW.alike h1)
def z_isr : Nat → List Bool
  | 0 => [true, true, true, true, false, false, false]
  | 1 => [false, false, false, false, false, false]
  | 2 => [true, false]
  | 3 => [false, false, false, false, false, false, true, true, true, false, false, false, false]
  | 4 => [true, true, true, true, false, false, false]
  | 5 => [true, false, false, false]
  | 6 => [true, true, true, true, false, false, false]
  | 7 => [false, false, false, false, false]
  | 8 => [true, true, true, true, true, true, true, false, false, false]
  | _ => []
def z_aty : Nat → FieldType
  | 0 => .int
  | 1 => .boolean
  | 2 => .int
  | 3 => .object "Codewordcable$Cable"
  | 4 => .object "Codewordcable$Message"
  | 5 => .object "Codewordcable$Office"
  | _ => .object "Codewordcable$Rules"
def z_tys (cy : Nat → ClassId) : List (ClassId × FieldType) := [(cy 0, .int), (cy 1, .boolean), (cy 2, .int), (cy 3, .object "Codewordcable$Cable"), (cy 4, .object "Codewordcable$Message"), (cy 5, .object "Codewordcable$Office"), (cy 6, .object "Codewordcable$Rules")]
/-- a reference by its id; 0: null -/
def z_ro (g : zSh) (j : Nat) : Option Nat := if j = 0 then none else some (g.2.1 j)
def z_rv (g : zSh) (j : Nat) : Value := va_rf (z_ro g j)
def z_cel (cy : Nat → ClassId) (g : zSh) (i : Nat) (f : Nat → Int32) : va_E :=
  if g.2.2.1 i < 10 then .inr (g.2.2.1 i, (z_isr (g.2.2.1 i)).mapIdx (fun k b => if b then z_rv g (g.2.2.2.2 i k) else .int (f k)))
  else if g.2.2.1 i < 12 then .inl (cy (g.2.2.1 i - 10), g.2.2.2.1 i, .inl f)
  else if g.2.2.1 i = 12 then .inl (cy 2, g.2.2.2.1 i, .inr (.inl (fun k => (f k).toInt64)))
  else .inl (cy (g.2.2.1 i - 10), g.2.2.2.1 i, .inr (.inr (.inr (.inr (fun k => z_ro g (g.2.2.2.2 i k))))))
def z_w (cy : Nat → ClassId) (g : zSh) (σ : zIn) : va_W := g.1.map (fun i => (g.2.1 i, z_cel cy g i (σ i)))
/-- a region: the addresses that may be written -/
abbrev zRg : Type := Nat → Prop
def z_A (z0 : zRg) : Nat → Prop := z0
def z_hi (z0 : zRg) (n : Nat) : Prop := ∀ q, n ≤ q → z0 q
theorem z_hi_le {z0 : zRg} {a b : Nat} (h : z_hi z0 a) (hab : a ≤ b) : z_hi z0 b := fun q hq => h q (Nat.le_trans hab hq)
def z_up (σ : zIn) (i k : Nat) (v : Int32) : zIn := fun i' k' => if i' = i then (if k' = k then v else σ i' k') else σ i' k'
theorem z_up_ne {σ : zIn} {i j k : Nat} {v : Int32} (h : j ≠ i) : z_up σ i k v j = σ j := by funext k'; simp [z_up, h]
theorem z_up_at {σ : zIn} {i k : Nat} {v : Int32} : z_up σ i k v i = upd (σ i) k v := by funext k'; simp [z_up, upd]
theorem z_get_k {cy : Nat → ClassId} {g : zSh} {σ : zIn} {i : Nat} (h : i ∈ g.1) : ∃ k : Nat, g.1[k]? = some i ∧ (z_w cy g σ)[k]? = some (g.2.1 i, z_cel cy g i (σ i)) := by
  obtain ⟨k, hk⟩ := List.getElem?_of_mem h
  exact ⟨k, hk, by simp [z_w, hk]⟩
theorem z_inj {cy : Nat → ClassId} {g : zSh} {σ : zIn} {A : Nat → Prop} (hD : va_D A (z_w cy g σ)) {n k i j : Nat} (h1 : g.1[n]? = some i) (h2 : g.1[k]? = some j) (h : g.2.1 i = g.2.1 j) : n = k :=
  hD.1 n k (g.2.1 i, z_cel cy g i (σ i)) (g.2.1 j, z_cel cy g j (σ j)) (by simp [z_w, h1]) (by simp [z_w, h2]) h
theorem z_set {cy : Nat → ClassId} {g g' : zSh} {σ σ' : zIn} {A : Nat → Prop} {k i : Nat} {e' : va_E} (hD : va_D A (z_w cy g σ)) (hi : g.1[k]? = some i) (h0 : g'.1 = g.1) (ha : g'.2.1 = g.2.1)
    (h1 : ∀ j, j ≠ i → z_cel cy g' j (σ' j) = z_cel cy g j (σ j)) (h2 : z_cel cy g' i (σ' i) = e') : (z_w cy g σ).set k (g.2.1 i, e') = z_w cy g' σ' := by
  apply List.ext_getElem?
  intro n
  by_cases hn : n = k
  · subst hn
    have hl : n < g.1.length := (List.getElem?_eq_some_iff.mp hi).1
    rw [List.getElem?_set_self (by simp [z_w]; exact hl)]
    simp [z_w, h0, ha, hi, h2]
  · rw [List.getElem?_set_ne (Ne.symm hn)]
    simp only [z_w, List.getElem?_map, h0, ha]
    cases hg : g.1[n]? with
    | none => rfl
    | some j =>
      have hj : j ≠ i := fun h => hn (z_inj hD hg hi (by rw [h]))
      simp [h1 j hj]
/-- the locals: of n places; those listed are held; every listed one is of one slot -/
def z_L (ls : Array Slot) (n : Nat) (L : List (Option Value)) : Prop := lv_has ls n [] ∧ (∀ (i : Nat) (v : Value), L[i]? = some (some v) → ls[i]? = some (Slot.val v)) ∧ ∀ (i : Nat) (v : Value), L[i]? = some (some v) → v.category = 1 ∨ (v.category = 2 ∧ L[i + 1]? = some none)
def z_ix (L : List (Option Value)) : List (Nat × Value) := L.zipIdx.filterMap (fun q => q.1.map (fun v => (q.2, v)))
theorem z_ix_mem {L : List (Option Value)} {j : Nat} {w : Value} : (j, w) ∈ z_ix L ↔ L[j]? = some (some w) := by
  constructor
  · intro h
    obtain ⟨⟨o, k⟩, h1, h2⟩ := List.mem_filterMap.mp h
    have h3 := List.mem_zipIdx_iff_getElem?.mp h1
    cases o with
    | none => cases h2
    | some v => cases h2; exact h3
  · intro h
    exact List.mem_filterMap.mpr ⟨(some w, j), List.mem_zipIdx_iff_getElem?.mpr h, rfl⟩
theorem z_L_ix {ls : Array Slot} {n : Nat} {L : List (Option Value)} (h : z_L ls n L) : lv_has ls n (z_ix L) := ⟨h.1.1, h.1.2.1, fun q hq => h.2.1 q.1 q.2 (z_ix_mem.mp hq)⟩
/-- place i isn't the second half of a long -/
def z_oS (L : List (Option Value)) (i : Nat) : Bool := match i with
  | 0 => true
  | j + 1 => match L[j]? with
    | some (some (.long _)) => false
    | some (some (.double _)) => false
    | _ => true
theorem z_oS_ne {L : List (Option Value)} {i j : Nat} {w : Value} (hs : z_oS L i = true) (h : L[j]? = some (some w)) (hw : w.category = 2) : j + 1 ≠ i := by
  intro e
  subst e
  unfold z_oS at hs
  simp only [h] at hs
  cases w <;> first | (exact absurd (show (1 : Nat) = 2 from hw) (by decide)) | (exact absurd (show false = true from hs) Bool.false_ne_true)
theorem z_L_set {ls ls' : Array Slot} {n i : Nat} {L : List (Option Value)} {v : Value} (h : z_L ls n L) (hv : v.category = 1) (hs : z_oS L i = true)
    (h2 : lv_has ls' n ((i, v) :: (z_ix L).filter (fun q => !(q.1 == i) && !(q.1 + 1 == i && q.2.category == 2)))) : z_L ls' n (L.set i (some v)) := by
  obtain ⟨h0, h3, h4⟩ := h
  have key : ∀ (j : Nat) (w : Value), (L.set i (some v))[j]? = some (some w) → (j = i ∧ w = v) ∨ (j ≠ i ∧ L[j]? = some (some w)) := by
    intro j w hj
    by_cases e : j = i
    · subst e
      by_cases hl : j < L.length
      · rw [List.getElem?_set_self hl] at hj
        cases hj; exact Or.inl ⟨rfl, rfl⟩
      · rw [List.getElem?_eq_none (by simp; omega)] at hj; cases hj
    · rw [List.getElem?_set_ne (Ne.symm e)] at hj
      exact Or.inr ⟨e, hj⟩
  refine ⟨⟨h2.1, h2.2.1, fun q hq => by cases hq⟩, fun j w hj => ?_, fun j w hj => ?_⟩
  · rcases key j w hj with ⟨rfl, rfl⟩ | ⟨e, hj⟩
    · exact h2.2.2 _ List.mem_cons_self
    · refine h2.2.2 (j, w) (List.mem_cons_of_mem _ (List.mem_filter.mpr ⟨z_ix_mem.mpr hj, ?_⟩))
      rcases h4 j w hj with q | ⟨q, q2⟩
      · simp [e, q]
      · simp [e, z_oS_ne hs hj q]
  · rcases key j w hj with ⟨rfl, rfl⟩ | ⟨e, hj⟩
    · exact Or.inl hv
    · rcases h4 j w hj with q | ⟨q, q2⟩
      · exact Or.inl q
      · exact Or.inr ⟨q, by rw [List.getElem?_set_ne (Ne.symm (z_oS_ne hs hj q))]; exact q2⟩
theorem z_L_set2 {ls ls' : Array Slot} {n i : Nat} {L : List (Option Value)} {v : Value} (h : z_L ls n L) (hv : v.category = 2) (hs : z_oS L i = true) (hl : i + 1 < L.length)
    (h2 : lv_has ls' n ((i, v) :: (z_ix L).filter (fun q => !(q.1 == i) && (!(q.1 == i + 1) && !(q.1 + 1 == i && q.2.category == 2))))) : z_L ls' n ((L.set i (some v)).set (i + 1) none) := by
  obtain ⟨h0, h3, h4⟩ := h
  have key : ∀ (j : Nat) (w : Value), ((L.set i (some v)).set (i + 1) none)[j]? = some (some w) → (j = i ∧ w = v) ∨ (j ≠ i ∧ j ≠ i + 1 ∧ L[j]? = some (some w)) := by
    intro j w hj
    by_cases e1 : j = i + 1
    · subst e1
      rw [List.getElem?_set_self (by simpa using hl)] at hj
      cases hj
    · rw [List.getElem?_set_ne (Ne.symm e1)] at hj
      by_cases e : j = i
      · subst e
        rw [List.getElem?_set_self (by omega)] at hj
        cases hj; exact Or.inl ⟨rfl, rfl⟩
      · rw [List.getElem?_set_ne (Ne.symm e)] at hj
        exact Or.inr ⟨e, e1, hj⟩
  refine ⟨⟨h2.1, h2.2.1, fun q hq => by cases hq⟩, fun j w hj => ?_, fun j w hj => ?_⟩
  · rcases key j w hj with ⟨rfl, rfl⟩ | ⟨e, e1, hj⟩
    · exact h2.2.2 _ List.mem_cons_self
    · refine h2.2.2 (j, w) (List.mem_cons_of_mem _ (List.mem_filter.mpr ⟨z_ix_mem.mpr hj, ?_⟩))
      rcases h4 j w hj with q | ⟨q, q2⟩
      · simp [e, e1, q]
      · simp [e, e1, z_oS_ne hs hj q]
  · rcases key j w hj with ⟨rfl, rfl⟩ | ⟨e, e1, hj⟩
    · exact Or.inr ⟨hv, by rw [List.getElem?_set_self (by simpa using hl)]⟩
    · rcases h4 j w hj with q | ⟨q, q2⟩
      · exact Or.inl q
      · exact Or.inr ⟨q, by rw [List.getElem?_set_ne (by omega), List.getElem?_set_ne (Ne.symm (z_oS_ne hs hj q))]; exact q2⟩
def z_cx (p : Program) (s : State) (m : MethodId) (args : Array Value) (meth : Method) (c : Code) (own : String) (cc : ByteArray) (nL : Nat) (ret : Option FieldType) (nm : String) (D : va_G) (cy : Nat → ClassId) (z0 : zRg) : Prop :=
  p.tables.exec = Jvm.exec ∧ c.code = cc ∧ c.maxLocals = nL ∧ s.vm.findClass own = some m.cls ∧ (∀ w ∈ lw_good, w.before args s = true) ∧ (∀ w ∈ lw_nest, va_Nw w s) ∧ va_K D vwCl (z_tys cy) s ∧ z_hi z0 s.heap.size ∧ meth.sig.returnType = ret ∧ meth.name = nm ∧ meth.locks = false
def z_V (p : Program) (l : Launch) (e : Env) (R : Room) (s : State) (m : MethodId) (args : Array Value) (below : List Frame) (meth : Method) (c : Code) (nL : Nat) (D : va_G) (cy : Nat → ClassId) (z0 : zRg) (cells slots : Nat) (Q : State → Prop) (pc : Nat) (L : List (Option Value)) (st : List Value) (g : zSh) (σ : zIn) : Prop :=
  ∀ (H : Heap) (locs : List Loc) (ls : Array Slot), va_P D vwCl (z_w cy g σ) H → va_D (z_A z0) (z_w cy g σ) → va_S (z_A z0) s.heap H locs → z_L ls nL L → W p l e R s m args below meth c H locs cells slots Q (F0 m pc ls st)
/-- what a method's end owes -/
def z_Qc (D : va_G) (cy : Nat → ClassId) (z0 : zRg) (Post : Option Value → zSh → zIn → Prop) : Array Value → State → Outcome → State → Prop := fun _ st oc t =>
  (∃ (v : Option Value) (g : zSh) (σ : zIn), oc = .returned v ∧ Post v g σ ∧ va_P D vwCl (z_w cy g σ) t.heap ∧ va_D (z_A z0) (z_w cy g σ)) ∧ va_F (z_A z0) st t
def z_Pc (D : va_G) (cy : Nat → ClassId) (z0 : zRg) (av : List Value) (g : zSh) (σ : zIn) : Array Value → State → Prop := va_Pc av (fun U => z_hi z0 U.heap.size ∧ va_P D vwCl (z_w cy g σ) U.heap ∧ va_D (z_A z0) (z_w cy g σ) ∧ va_K D vwCl (z_tys cy) U ∧ ∀ w ∈ lw_nest, va_Nw w U)
def z_Ct (l : Launch) (D : va_G) (cy : Nat → ClassId) (z0 : zRg) (M : zM) (av : List Value) (g : zSh) (σ : zIn) (Post : Option Value → zSh → zIn → Prop) : Prop :=
  Met l M.1 (.code M.1 M.2.1 M.2.2.1 M.2.2.2.1 :: lw_good) { frames := M.2.2.2.2.1, cells := M.2.2.2.2.2.1, slots := M.2.2.2.2.2.2.1, locals := M.2.2.2.2.2.2.2 } (z_Pc D cy z0 av g σ) (z_Qc D cy z0 Post) M.2.2.2.2.2.1 M.2.2.2.2.2.2.1 (z_A z0)
theorem z_Pc_blind {D : va_G} {cy : Nat → ClassId} {z0 : zRg} {av : List Value} {g : zSh} {σ : zIn} : FrameBlind (z_Pc D cy z0 av g σ) := by
  intro a U gg mk h
  obtain ⟨h1, h2, h3, h4, h5, h6⟩ := h
  refine ⟨h1, h2, h3, h4, va_K.moved (u := U) (U := U.calling gg mk a) (Vm.Alike.refl U.vm) h5, fun w hw => ?_⟩
  have h7 := h6 w hw
  have h8 := (List.mem_filter.mp hw).2
  cases w <;> first | (exact absurd h8 Bool.false_ne_true) | (exact va_Nw.same rfl (u := U) (U := U.calling gg mk a) rfl h7) | skip
  case arrayOver t =>
    cases t <;> first | (exact absurd h8 Bool.false_ne_true) | (exact va_AO.moved (u := U) (U := U.calling gg mk a) (Vm.Alike.refl U.vm) h7)
theorem z_lv_args : ∀ (av : List Value) (k : Nat), (∀ v ∈ av, v.category = 1) → ∀ (i : Nat) (v : Value), av[i]? = some v → (k + i, v) ∈ lv_args k av
  | [], _, _, i, v, h => by simp at h
  | a :: av, k, hc, i, v, h => by
    have ha : a.category = 1 := hc a List.mem_cons_self
    cases i with
    | zero => simp at h; subst h; simp [lv_args]
    | succ i =>
      have h1 : av[i]? = some v := by simpa using h
      have h2 := z_lv_args av (k + 1) (fun v hv => hc v (List.mem_cons_of_mem _ hv)) i v h1
      simp only [lv_args, ha]
      refine List.mem_cons_of_mem _ ?_
      have e : k + (i + 1) = k + 1 + i := by omega
      rw [e]; simpa using h2
theorem z_sl_len : ∀ (av : List Value), (∀ v ∈ av, v.category = 1) → (lg_sl av).length = av.length
  | [], _ => rfl
  | a :: av, hc => by
    have ha : a.category = 1 := hc a List.mem_cons_self
    have h2 := z_sl_len av (fun v hv => hc v (List.mem_cons_of_mem _ hv))
    simp only [lg_sl] at h2 ⊢
    simp [List.flatMap_cons, ha, h2]
theorem z_ofV {l : Launch} {D : va_G} {cy : Nat → ClassId} {z0 : zRg} {M : zM} {av : List Value} {g : zSh} {σ : zIn} {Post : Option Value → zSh → zIn → Prop} (hpn : plainName M.1.cls = true) (hav : ∀ v ∈ av, v.category = 1) (hn : av.length ≤ M.2.2.1)
    (h : ∀ (p : Program) (e : Env) (s : State) (m : MethodId) (args : Array Value) (below : List Frame) (meth : Method) (c : Code), z_cx p s m args meth c M.1.cls M.2.1 M.2.2.1 M.2.2.2.1 M.1.name D cy z0 →
      z_V p l e { frames := M.2.2.2.2.1, cells := M.2.2.2.2.2.1, slots := M.2.2.2.2.2.2.1, locals := M.2.2.2.2.2.2.2 } s m args below meth c M.2.2.1 D cy z0 0 0 (MQ below (z_Qc D cy z0 Post) args s M.2.2.2.2.2.1 M.2.2.2.2.2.2.1 (z_A z0)) 0 (av.map some ++ List.replicate (M.2.2.1 - av.length) none) [] g σ) : z_Ct l D cy z0 M av g σ Post := by
  refine Met.ofW (cc := M.2.1) (maxL := M.2.2.1) (ret := M.2.2.2.1) hpn rfl ?_
  intro p e s m args below meth c s₁ B hml hv
  obtain ⟨rfl, hz, hP, hD, hK, hN⟩ := hv
  have hts := atoms_spec (ws := .code M.1 M.2.1 M.2.2.1 M.2.2.2.1 :: lw_good) B.pre
  have hown : s.vm.findClass M.1.cls = some m.cls := findClass_of_methodNamed B.named
  have hin : meth.name = M.1.name := (name_of_methodNamed B.named B.method).1
  have hl0 := lv_entry av (n := M.2.2.1) (by rw [z_sl_len av hav]; exact hn)
  rw [lg_entry_eq]
  generalize (lg_sl av ++ List.replicate (M.2.2.1 - (lg_sl av).length) Slot.unset).toArray = ls at hl0 ⊢
  refine h p e s m av.toArray below meth c ⟨B.exec, B.bytes, hml, hown, fun w hw => hts w (List.mem_cons_of_mem _ hw), hN, hK, hz, B.returns, hin, B.notSynchronized⟩ s.heap [] ls hP hD va_S.rf ⟨⟨hl0.1, hl0.2.1, fun q hq => by cases hq⟩, fun i v hi => ?_, fun i v hi => ?_⟩
  · have hi' : av[i]? = some v := by
      by_cases hlt : i < av.length
      · rw [List.getElem?_append_left (by simpa using hlt), List.getElem?_map] at hi
        cases hq : av[i]? with
        | none => rw [hq] at hi; cases hi
        | some w => rw [hq] at hi; cases hi; rfl
      · rw [List.getElem?_append_right (by simpa using Nat.not_lt.mp hlt)] at hi
        have := List.mem_of_getElem? hi
        simp at this
    have := hl0.2.2 (0 + i, v) (z_lv_args av 0 hav i v hi')
    simpa using this
  · have hi' : some v ∈ av.map some ++ List.replicate (M.2.2.1 - av.length) (none : Option Value) := List.mem_of_getElem? hi
    rcases List.mem_append.mp hi' with h1 | h1
    · obtain ⟨w, hw, e⟩ := List.mem_map.mp h1
      cases e; exact Or.inl (hav v hw)
    · simp at h1
