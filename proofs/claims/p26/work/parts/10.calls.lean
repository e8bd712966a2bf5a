/-! calls and allocations -/
def z_cc (own : String) (idx : Nat) (M : zM) (n : Nat) : Prop := (Cond.methodLink own idx M.1 ∈ lw_good ∨ ∃ host, Cond.methodLinkNest own idx M.1 host ∈ lw_nest) ∧ Cond.code M.1 M.2.1 M.2.2.1 M.2.2.2.1 ∈ lw_good ∧ Cond.initialized M.1.cls ∈ lw_good ∧ (M.1.cls ≠ "java/lang/invoke/MethodHandle" ∧ M.1.cls ≠ "java/lang/invoke/VarHandle") ∧ (parseMethodDescriptor M.1.desc).map (fun d => d.parameters.length) = some n
def z_cV (own : String) (idx : Nat) (M : zM) (n ci : Nat) : Prop := z_cc own idx M n ∧ Cond.instanceMethod M.1 ∈ lw_good ∧ Cond.selects M.1.cls M.1 M.1 ∈ lw_good ∧ ci < 10 ∧ (vwCl[ci]?).map (fun r => r.1) = some M.1.cls
def z_cS (own : String) (idx : Nat) (M : zM) (n : Nat) : Prop := z_cc own idx M n ∧ Cond.static M.1 ∈ lw_good
def z_cI (own : String) (idx : Nat) (M : zM) (n : Nat) : Prop := z_cc own idx M n ∧ M.1.name = "<init>" ∧ Cond.instanceMethod M.1 ∈ lw_good ∧ M.2.2.2.1 = none
theorem z_goodIn {M : zM} {w0 : Cond} (h : Cond.code M.1 M.2.1 M.2.2.1 M.2.2.2.1 ∈ lw_good) : GoodIn lw_good (.code M.1 M.2.1 M.2.2.1 M.2.2.2.1 :: lw_good) := by
  intro w hw
  rcases List.mem_cons.mp hw with rfl | hw
  · exact ⟨h, good_of_word (List.mem_filter.mp h).2⟩
  · exact ⟨hw, good_of_word (List.mem_filter.mp hw).2⟩
section ZR
variable {p : Program} {l : Launch} {e : Env} {R : Room} {s : State} {m : MethodId} {args : Array Value} {below : List Frame} {meth : Method} {c : Code} {cells slots : Nat} {Q : State → Prop} {own nm : String} {cc : ByteArray} {nL : Nat} {ret : Option FieldType} {D : va_G} {cy : Nat → ClassId} {z0 : zRg} {pc : Nat} {L : List (Option Value)} {st : List Value} {g : zSh} {σ : zIn}

theorem z_call {H : Heap} {locs : List Loc} {ls : Array Slot} {mc ms : Nat} {st0 rest : List Value} {a : Array Value} {Post : Option Value → zSh → zIn → Prop} (hr : va_Run p l e R s m args below meth c H locs cells slots mc ms (F0 m pc ls st0) rest (z_Qc D cy z0 Post a) (z_A z0)) (hS : va_S (z_A z0) s.heap H locs) (hL : z_L ls nL L)
    (kk : ∀ (v : Option Value) (g' : zSh) (σ' : zIn), Post v g' σ' → z_V p l e R s m args below meth c nL D cy z0 (cells + mc) (slots + ms) Q (pc + 3) (L) (v.toList ++ rest) g' σ') : W p l e R s m args below meth c H locs cells slots Q (F0 m pc ls st0) := by
  intro T hT X
  obtain ⟨v, st₀, t, T', L', h0, X', hL', e1, e2, ⟨⟨v', g', σ', hv, hp, hP1, hD1⟩, hz, hk⟩, stp⟩ := hr T hT X
  cases hv
  rw [h0] at hz hk
  obtain ⟨t2, a1, b1⟩ := kk v g' σ' hp T'.heap (locs ++ L') ls (by rw [e1]; exact hP1) hD1
    ⟨Nat.le_trans hS.1 (by rw [e1]; exact hz), fun q h1 h2 => by rw [e1, hk q (Nat.lt_of_lt_of_le h1 hS.1) h2]; exact hS.2.1 q h1 h2, fun q hq => by
      rcases List.mem_append.mp hq with h | h
      · exact hS.2.2 q h
      · exact hL' q h⟩ hL T' rfl X'
  exact ⟨t2, stp t2 a1, b1⟩
theorem z_runV (X : z_cx p s m args meth c own cc nL ret nm D cy z0) {idx n b ci : Nat} {M : zM} {As rest : List Value} {Post : Option Value → zSh → zIn → Prop} (F : z_cV own idx M n ci) (h : z_Ct l D cy z0 M (.ref (g.2.1 b) :: As) g σ Post) (ho : z_ob g b ci) (hn : As.length = n) (hst : st = As.reverse ++ .ref (g.2.1 b) :: rest) (hcat : (rest.map fun v => v.category).sum ≤ 8) (hR : M.2.2.2.2.1 + 1 ≤ R.frames ∧ 8 + (M.2.2.1 + 11) + M.2.2.2.2.2.2.2 ≤ R.locals) (hc : cells + M.2.2.2.2.2.1 ≤ R.cells ∧ slots + M.2.2.2.2.2.2.1 ≤ R.slots) (d : decode cc pc = .ok (.invokevirtual idx, 3)) (kk : ∀ (v : Option Value) (g' : zSh) (σ' : zIn), Post v g' σ' → z_V p l e R s m args below meth c nL D cy z0 (cells + M.2.2.2.2.2.1) (slots + M.2.2.2.2.2.2.1) Q (pc + 3) (L) (v.toList ++ rest) g' σ') : z_V p l e R s m args below meth c nL D cy z0 cells slots Q (pc) (L) (st) g σ := by
  intro H locs ls hP hD hS hL
  obtain ⟨hx, hb', hml, hown, hts, hN, hK, hz, hr, hnm, hlk⟩ := X
  obtain ⟨⟨f1, f2, f3, f4, f5⟩, f6, f7, f8, f9⟩ := F
  subst hst
  have hpc : ∀ U : State, U.heap = H → s.WarmedH U.vm → z_Pc D cy z0 (.ref (g.2.1 b) :: As) g σ ((.ref (g.2.1 b) :: As)).toArray U := fun U hU hW => ⟨rfl, by rw [hU]; exact z_hi_le hz hS.1, by rw [hU]; exact hP, hD, va_K.moved hW.alike hK, lw_nest_warm hW hN⟩
  obtain ⟨q, q1, q2⟩ := z_get_k (cy := cy) (σ := σ) ho.1
  rw [z_cel_ob ho.2 f8] at q2
  obtain ⟨C9, hC1, hC2⟩ : ∃ r : vw_C, vwCl[ci]? = some r ∧ r.1 = M.1.cls := by
    cases hq : vwCl[ci]? with
    | none => rw [hq] at f9; cases f9
    | some r => rw [hq] at f9; exact ⟨r, rfl, Option.some.inj f9⟩
  have hrec := va_recv hK hP hC1 q2
  rw [hC2] at hrec
  rcases f1 with f1 | ⟨host, f1⟩
  · exact z_call (va_runV (C := M.1.cls) (b := g.2.1 b) (As := As) (rest := rest) ⟨hx, hb', hml, hown, hts⟩ h ⟨callB_of n hts (z_goodIn (w0 := .count 0) f2) rfl rfl rfl (hts _ f3) (hts _ f1) ⟨f4.1, f4.2, f5⟩ hR, hts _ f6, hts _ f7⟩ ⟨z_Pc_blind, hrec, hpc⟩ rfl hn hL.1.1 rfl (lv_room hcat) d hc) hS hL kk
  · exact z_call (va_runVN (C := M.1.cls) (b := g.2.1 b) (As := As) (rest := rest) ⟨hx, hb', hml, hown, hts⟩ h ⟨va_cnB n hts (z_goodIn (w0 := .count 0) f2) rfl rfl rfl (hN _ f1) (hts _ f3) ⟨f4.1, f4.2, f5⟩ hR, hts _ f6, hts _ f7⟩ ⟨z_Pc_blind, hrec, hpc⟩ rfl hn hL.1.1 rfl (lv_room hcat) d hc) hS hL kk
theorem z_runS (X : z_cx p s m args meth c own cc nL ret nm D cy z0) {idx n : Nat} {M : zM} {As rest : List Value} {Post : Option Value → zSh → zIn → Prop} (F : z_cS own idx M n) (h : z_Ct l D cy z0 M As g σ Post) (hn : As.length = n) (hst : st = As.reverse ++ rest) (hcat : (rest.map fun v => v.category).sum ≤ 8) (hR : M.2.2.2.2.1 + 1 ≤ R.frames ∧ 8 + (M.2.2.1 + 11) + M.2.2.2.2.2.2.2 ≤ R.locals) (hc : cells + M.2.2.2.2.2.1 ≤ R.cells ∧ slots + M.2.2.2.2.2.2.1 ≤ R.slots) (d : decode cc pc = .ok (.invokestatic idx, 3)) (kk : ∀ (v : Option Value) (g' : zSh) (σ' : zIn), Post v g' σ' → z_V p l e R s m args below meth c nL D cy z0 (cells + M.2.2.2.2.2.1) (slots + M.2.2.2.2.2.2.1) Q (pc + 3) (L) (v.toList ++ rest) g' σ') : z_V p l e R s m args below meth c nL D cy z0 cells slots Q (pc) (L) (st) g σ := by
  intro H locs ls hP hD hS hL
  obtain ⟨hx, hb', hml, hown, hts, hN, hK, hz, hr, hnm, hlk⟩ := X
  obtain ⟨⟨f1, f2, f3, f4, f5⟩, f6⟩ := F
  subst hst
  have hpc : ∀ U : State, U.heap = H → s.WarmedH U.vm → z_Pc D cy z0 As g σ (As).toArray U := fun U hU hW => ⟨rfl, by rw [hU]; exact z_hi_le hz hS.1, by rw [hU]; exact hP, hD, va_K.moved hW.alike hK, lw_nest_warm hW hN⟩
  rcases f1 with f1 | ⟨host, f1⟩
  · exact z_call (va_runS (As := As) (rest := rest) ⟨hx, hb', hml, hown, hts⟩ h ⟨callB_of n hts (z_goodIn (w0 := .count 0) f2) rfl rfl rfl (hts _ f3) (hts _ f1) ⟨f4.1, f4.2, f5⟩ hR, hts _ f6⟩ ⟨z_Pc_blind, hpc⟩ rfl hn hL.1.1 rfl (lv_room hcat) d hc) hS hL kk
  · exact z_call (va_runSN (As := As) (rest := rest) ⟨hx, hb', hml, hown, hts⟩ h ⟨va_cnB n hts (z_goodIn (w0 := .count 0) f2) rfl rfl rfl (hN _ f1) (hts _ f3) ⟨f4.1, f4.2, f5⟩ hR, hts _ f6, trivial⟩ ⟨z_Pc_blind, hpc⟩ rfl hn hL.1.1 rfl (lv_room hcat) d hc) hS hL kk
theorem z_runI (X : z_cx p s m args meth c own cc nL ret nm D cy z0) {idx n b : Nat} {M : zM} {As rest : List Value} {Post : Option Value → zSh → zIn → Prop} (F : z_cI own idx M n) (h : z_Ct l D cy z0 M (.ref (g.2.1 b) :: As) g σ Post) (hn : As.length = n) (hst : st = As.reverse ++ .ref (g.2.1 b) :: rest) (hcat : (rest.map fun v => v.category).sum ≤ 8) (hR : M.2.2.2.2.1 + 1 ≤ R.frames ∧ 8 + (M.2.2.1 + 11) + M.2.2.2.2.2.2.2 ≤ R.locals) (hc : cells + M.2.2.2.2.2.1 ≤ R.cells ∧ slots + M.2.2.2.2.2.2.1 ≤ R.slots) (d : decode cc pc = .ok (.invokespecial idx, 3)) (kk : ∀ (v : Option Value) (g' : zSh) (σ' : zIn), Post v g' σ' → z_V p l e R s m args below meth c nL D cy z0 (cells + M.2.2.2.2.2.1) (slots + M.2.2.2.2.2.2.1) Q (pc + 3) (L) (v.toList ++ rest) g' σ') : z_V p l e R s m args below meth c nL D cy z0 cells slots Q (pc) (L) (st) g σ := by
  intro H locs ls hP hD hS hL
  obtain ⟨hx, hb', hml, hown, hts, hN, hK, hz, hr, hnm, hlk⟩ := X
  obtain ⟨⟨f1, f2, f3, f4, f5⟩, f6, f7, f8⟩ := F
  subst hst
  have hpc : ∀ U : State, U.heap = H → s.WarmedH U.vm → z_Pc D cy z0 (.ref (g.2.1 b) :: As) g σ ((.ref (g.2.1 b) :: As)).toArray U := fun U hU hW => ⟨rfl, by rw [hU]; exact z_hi_le hz hS.1, by rw [hU]; exact hP, hD, va_K.moved hW.alike hK, lw_nest_warm hW hN⟩
  obtain ⟨My, Mc, Ml, Mr, Mf, Mcc, Ms, Mlo⟩ := M
  dsimp only at f8
  subst f8
  rcases f1 with f1 | ⟨host, f1⟩
  · exact z_call (va_runI (b := g.2.1 b) (As := As) (rest := rest) ⟨hx, hb', hml, hown, hts⟩ h ⟨callB_of n hts (z_goodIn (M := (My, Mc, Ml, none, Mf, Mcc, Ms, Mlo)) (w0 := .count 0) f2) rfl rfl rfl (hts _ f3) (hts _ f1) ⟨f4.1, f4.2, f5⟩ hR, f6, hts _ f7⟩ ⟨z_Pc_blind, hpc⟩ rfl hn hL.1.1 rfl (lv_room hcat) d hc) hS hL kk
  · exact z_call (va_runIN (b := g.2.1 b) (As := As) (rest := rest) ⟨hx, hb', hml, hown, hts⟩ h ⟨va_cnB n hts (z_goodIn (M := (My, Mc, Ml, none, Mf, Mcc, Ms, Mlo)) (w0 := .count 0) f2) rfl rfl rfl (hN _ f1) (hts _ f3) ⟨f4.1, f4.2, f5⟩ hR, f6, hts _ f7⟩ ⟨z_Pc_blind, hpc⟩ rfl hn hL.1.1 rfl (lv_room hcat) d hc) hS hL kk
theorem z_objInit (X : z_cx p s m args meth c own cc nL ret nm D cy z0) {idx x : Nat} (h1 : Cond.methodLink own idx Lib.objectInit ∈ lw_good) (h2 : Cond.instanceMethod Lib.objectInit ∈ lw_good) (h3 : Cond.code Lib.objectInit ⟨#[0xb1]⟩ 1 none ∈ lw_good) (hf : 1 ≤ R.frames) (hlo : (st.map fun v => v.category).sum + 12 ≤ R.locals) (d : decode cc pc = .ok (.invokespecial idx, 3)) (kk : z_V p l e R s m args below meth c nL D cy z0 cells slots Q (pc + 3) (L) (st) g σ) : z_V p l e R s m args below meth c nL D cy z0 cells slots Q (pc) (L) (.ref x :: st) g σ := by
  intro H locs ls hP hD hS hL
  obtain ⟨hx, hb', hml, hown, hts, hN, hK, hz, hr, hnm, hlk⟩ := X
  refine W.objInit hx hb' hown (hts _ h1) (hts _ h2) (hts _ h3) rfl (by rw [hml]; exact hL.1.1) rfl d hf (by show 2 * 0 + _ + 12 ≤ _; omega) ?_
  exact kk H locs ls hP hD hS hL
def z_add (g : zSh) (i a kd n : Nat) : zSh := (g.1 ++ [i], va_up g.2.1 i a, va_up g.2.2.1 i kd, va_up g.2.2.2.1 i n, fun i' k' => if i' = i then 0 else g.2.2.2.2 i' k')
def z_zero (σ : zIn) (i : Nat) : zIn := fun i' k' => if i' = i then 0 else σ i' k'
def z_wf (g : zSh) : Prop := ∀ j ∈ g.1, ∀ k, g.2.2.2.2 j k = 0 ∨ g.2.2.2.2 j k ∈ g.1
theorem z_w_add {cy : Nat → ClassId} {g : zSh} {σ : zIn} {i a kd n : Nat} {ce : va_E} (hw : z_wf g) (hi : i ∉ g.1) (hi0 : i ≠ 0) (hce : z_cel cy (z_add g i a kd n) i (fun _ => 0) = ce) : z_w cy g σ ++ [(a, ce)] = z_w cy (z_add g i a kd n) (z_zero σ i) := by
  have h1 : ∀ j ∈ g.1, (g.2.1 j, z_cel cy g j (σ j)) = ((z_add g i a kd n).2.1 j, z_cel cy (z_add g i a kd n) j (z_zero σ i j)) := by
    intro j hj
    have hne : j ≠ i := fun h => hi (h ▸ hj)
    have e1 : z_zero σ i j = σ j := by funext k; simp [z_zero, hne]
    have e2 : ∀ k, z_ro (z_add g i a kd n) (g.2.2.2.2 j k) = z_ro g (g.2.2.2.2 j k) := by
      intro k
      rcases hw j hj k with h | h
      · simp [z_ro, h]
      · have : g.2.2.2.2 j k ≠ i := fun e => hi (e ▸ h)
        simp [z_ro, z_add, va_up, this]
    rw [e1]
    refine Prod.ext ?_ ?_
    · simp [z_add, va_up, hne]
    · have e3 : (z_add g i a kd n).2.2.1 j = g.2.2.1 j := by simp [z_add, va_up, hne]
      have e4 : (z_add g i a kd n).2.2.2.1 j = g.2.2.2.1 j := by simp [z_add, va_up, hne]
      have e5 : (z_add g i a kd n).2.2.2.2 j = g.2.2.2.2 j := by funext k; simp [z_add, hne]
      simp only [z_cel, z_rv, e3, e4, e5, e2]
  have h2 : z_zero σ i i = fun _ => 0 := by funext k; simp [z_zero]
  show g.1.map _ ++ [(a, ce)] = (g.1 ++ [i]).map _
  rw [List.map_append, List.map_congr_left h1]
  congr 1
  simp only [List.map_cons, List.map_nil, h2, hce]
  simp [z_add, va_up]
def z_na (own : String) (idx ci : Nat) : Prop := ∃ (C : String) (T : u_T) (N : Nat) (ty0 : Nat → FieldType), vwCl[ci]? = some (C, T, N) ∧ ci < 10 ∧ (z_isr ci).length = N ∧ (∀ w ∈ u_ws C T N, w ∈ lw_good) ∧ (∀ k, k < N → parseFieldDescriptor (T k).2.2.1 = some (ty0 k)) ∧ (∀ k, k < N → defaultValue (ty0 k) = if (z_isr ci)[k]? = some true then .null else .int 0) ∧ Cond.classLink own idx C ∈ lw_good ∧ Cond.instantiable C N ∈ lw_good ∧ Cond.initialized C ∈ lw_good
theorem z_new (X : z_cx p s m args meth c own cc nL ret nm D cy z0) {idx ci i : Nat} (F : z_na own idx ci) (hw : z_wf g) (hi : i ∉ g.1) (hi0 : i ≠ 0) (hce : cells + 1 ≤ R.cells) (hsl : slots + (z_isr ci).length ≤ R.slots) (d : decode cc pc = .ok (.new idx, 3)) (kk : ∀ a : Nat, z_V p l e R s m args below meth c nL D cy z0 (cells + 1) (slots + (z_isr ci).length) Q (pc + 3) (L) (.ref a :: st) (z_add g i a ci 0) (z_zero σ i)) : z_V p l e R s m args below meth c nL D cy z0 cells slots Q (pc) (L) (st) g σ := by
  intro H locs ls hP hD hS hL
  obtain ⟨hx, hb', hml, hown, hts, hN, hK, hz, hr, hnm, hlk⟩ := X
  obtain ⟨C, T, N, ty0, f1, f2, f3, f4, f5, f6, f7, f8, f9⟩ := F
  rw [f3] at hsl kk
  have hcell : ∀ a, z_cel cy (z_add g i a ci 0) i (fun _ => 0) = .inr (ci, (z_isr ci).map (fun b => if b then Value.null else .int 0)) := by
    intro a
    rw [z_cel_ob (show (z_add g i a ci 0).2.2.1 i = ci by simp [z_add, va_up]) f2]
    congr 2
    apply List.ext_getElem?
    intro n
    rw [List.getElem?_mapIdx, List.getElem?_map]
    cases (z_isr ci)[n]? with
    | none => rfl
    | some b => cases b <;> simp [z_rv, z_ro, z_add, va_rf]
  refine va_new (fs := (z_isr ci).map (fun b => if b then Value.null else .int 0)) hx hb' hts f4 ty0 f5 hown (hts _ f7) (hts _ f8) (hts _ f9) hK hP hD hS (fun q hq => hz q hq) f1 (fun j hj => ?_) hce hsl d (fun a H1 h1 h2 h3 => ?_)
  · rw [f6 j hj]
    have hl : j < (z_isr ci).length := by rw [f3]; exact hj
    simp only [vp_V, List.getD, List.getElem?_map]
    rw [List.getElem?_eq_getElem hl]
    cases (z_isr ci)[j] <;> simp
  · rw [z_w_add (a := a) hw hi hi0 (hcell a)] at h1 h2
    exact kk a H1 locs ls h1 h2 h3 hL
theorem z_newaI (X : z_cx p s m args meth c own cc nL ret nm D cy z0) {x : Int32} {i N : Nat} (hac : Cond.arrayClass (newarray.typeOf .int) ∈ lw_good) (hw : z_wf g) (hi : i ∉ g.1) (hi0 : i ≠ 0) (hx0 : ¬ x < 0) (hxN : x.toNatClampNeg = N) (hbig : N ≤ 60000000) (hce : cells + 1 ≤ R.cells) (hsl : slots + N ≤ R.slots) (d : decode cc pc = .ok (.newarray .int, 2)) (kk : ∀ a : Nat, z_V p l e R s m args below meth c nL D cy z0 (cells + 1) (slots + N) Q (pc + 2) (L) (.ref a :: st) (z_add g i a (10 + 0) N) (z_zero σ i)) : z_V p l e R s m args below meth c nL D cy z0 cells slots Q (pc) (L) (.int x :: st) g σ := by
  intro H locs ls hP hD hS hL
  obtain ⟨hx, hb', hml, hown, hts, hN, hK, hz, hr, hnm, hlk⟩ := X
  refine va_newa (ty := .int) (a0 := (N, .inl (fun _ => 0))) hx hb' (hts _ hac) rfl hK hP hD hS (fun q hq => hz q hq) (fun cA => rfl) hx0 hxN (by show N * _ ≤ _; simp [componentBytes]; omega) hce hsl d (fun q cA H1 hK1 h1 h2 h3 => ?_)
  have hcA : cA = cy 0 := by
    have e1 := (hK1.2 7 (cA, .int) rfl).2
    have e2 := (hK1.2 0 (cy 0, .int) rfl).2
    have e3 : s.vm.findClass ("[" ++ FieldType.toString .int) = some cA := e1
    have e4 : s.vm.findClass ("[" ++ FieldType.toString .int) = some (cy 0) := e2
    exact Option.some.inj (e3.symm.trans e4)
  subst hcA
  rw [z_w_add (a := q) (kd := 10 + 0) (n := N) hw hi hi0 ((z_cel_I (show (z_add g i q (10 + 0) N).2.2.1 i = 10 + 0 by simp [z_add, va_up]) (show (z_add g i q (10 + 0) N).2.2.2.1 i = N by simp [z_add, va_up])))] at h1 h2
  exact kk q H1 locs ls h1 h2 h3 hL
theorem z_newaZ (X : z_cx p s m args meth c own cc nL ret nm D cy z0) {x : Int32} {i N : Nat} (hac : Cond.arrayClass (newarray.typeOf .boolean) ∈ lw_good) (hw : z_wf g) (hi : i ∉ g.1) (hi0 : i ≠ 0) (hx0 : ¬ x < 0) (hxN : x.toNatClampNeg = N) (hbig : N ≤ 60000000) (hce : cells + 1 ≤ R.cells) (hsl : slots + N ≤ R.slots) (d : decode cc pc = .ok (.newarray .boolean, 2)) (kk : ∀ a : Nat, z_V p l e R s m args below meth c nL D cy z0 (cells + 1) (slots + N) Q (pc + 2) (L) (.ref a :: st) (z_add g i a (10 + 1) N) (z_zero σ i)) : z_V p l e R s m args below meth c nL D cy z0 cells slots Q (pc) (L) (.int x :: st) g σ := by
  intro H locs ls hP hD hS hL
  obtain ⟨hx, hb', hml, hown, hts, hN, hK, hz, hr, hnm, hlk⟩ := X
  refine va_newa (ty := .boolean) (a0 := (N, .inl (fun _ => 0))) hx hb' (hts _ hac) rfl hK hP hD hS (fun q hq => hz q hq) (fun cA => rfl) hx0 hxN (by show N * _ ≤ _; simp [componentBytes]; omega) hce hsl d (fun q cA H1 hK1 h1 h2 h3 => ?_)
  have hcA : cA = cy 1 := by
    have e1 := (hK1.2 7 (cA, .boolean) rfl).2
    have e2 := (hK1.2 1 (cy 1, .boolean) rfl).2
    have e3 : s.vm.findClass ("[" ++ FieldType.toString .boolean) = some cA := e1
    have e4 : s.vm.findClass ("[" ++ FieldType.toString .boolean) = some (cy 1) := e2
    exact Option.some.inj (e3.symm.trans e4)
  subst hcA
  rw [z_w_add (a := q) (kd := 10 + 1) (n := N) hw hi hi0 ((z_cel_Z (show (z_add g i q (10 + 1) N).2.2.1 i = 10 + 1 by simp [z_add, va_up]) (show (z_add g i q (10 + 1) N).2.2.2.1 i = N by simp [z_add, va_up])))] at h1 h2
  exact kk q H1 locs ls h1 h2 h3 hL
theorem z_newq (X : z_cx p s m args meth c own cc nL ret nm D cy z0) {x : Int32} {idx i N t : Nat} {C : String} (ht : 3 ≤ t ∧ t < 7) (htc : z_aty t = .object C) (hcl : Cond.classLink own idx C ∈ lw_good) (hov : Cond.arrayOver (.object C) ∈ lw_nest) (hw : z_wf g) (hi : i ∉ g.1) (hi0 : i ≠ 0) (hx0 : ¬ x < 0) (hxN : x.toNatClampNeg = N) (hbig : N ≤ 60000000) (hce : cells + 1 ≤ R.cells) (hsl : slots + N ≤ R.slots) (d : decode cc pc = .ok (.anewarray idx, 3)) (kk : ∀ a : Nat, z_V p l e R s m args below meth c nL D cy z0 (cells + 1) (slots + N) Q (pc + 3) (L) (.ref a :: st) (z_add g i a (10 + t) N) (z_zero σ i)) : z_V p l e R s m args below meth c nL D cy z0 cells slots Q (pc) (L) (.int x :: st) g σ := by
  intro H locs ls hP hD hS hL
  obtain ⟨hx, hb', hml, hown, hts, hN, hK, hz, hr, hnm, hlk⟩ := X
  refine va_newq hx hb' hown (hts _ hcl) (hN _ hov) hK hP hD hS (fun q hq => hz q hq) hx0 hxN (by omega) hce hsl d (fun q cA H1 hK1 h1 h2 h3 => ?_)
  have hcA : cA = cy t := by
    have hty := z_tys_at (cy := cy) ht.2
    rw [htc] at hty
    obtain ⟨_, _, -, -, -, e1⟩ := (hK1.2 7 (cA, .object C) rfl).2
    obtain ⟨_, _, -, -, -, e2⟩ := (hK1.2 t (cy t, .object C) (by rw [List.getElem?_append_left (by exact ht.2)]; exact hty)).2
    exact Option.some.inj (e1.symm.trans e2)
  subst hcA
  have hce2 : z_cel cy (z_add g i q (10 + t) N) i (fun _ => 0) = .inl (cy t, N, .inr (.inr (.inr (.inr (fun _ => none))))) := by
    rw [z_cel_Q ht.1 (show (z_add g i q (10 + t) N).2.2.1 i = 10 + t by simp [z_add, va_up]) (show (z_add g i q (10 + t) N).2.2.2.1 i = N by simp [z_add, va_up])]
    simp [z_ro, z_add]
  rw [z_w_add (a := q) (kd := 10 + t) (n := N) hw hi hi0 hce2] at h1 h2
  exact kk q H1 locs ls h1 h2 h3 hL
end ZR
