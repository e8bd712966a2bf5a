/-! the law's world: two objects told by one state, and the law's own arrays -/
theorem zne_upd {α : Type} {f : Nat → α} {c : Nat} {x y : α} : zp1 (zp1 f c x) c y = zp1 f c y := by
  funext n; unfold zp1; split <;> rfl
theorem zJ_ob {w : Nat → zSh} {i k c : Nat} (hc : c < 3) (h : z_ob (w c) i k) : z_ob (zJg w) (3 * i + c) k := by
  refine ⟨?_, by rw [zJ_kd hc]; exact h.2⟩
  have : c = 0 ∨ c = 1 ∨ c = 2 := by omega
  rcases this with rfl | rfl | rfl
  · exact List.mem_append_left _ (List.mem_map.mpr ⟨i, h.1, rfl⟩)
  · exact List.mem_append_right _ (List.mem_append_left _ (List.mem_map.mpr ⟨i, h.1, rfl⟩))
  · exact List.mem_append_right _ (List.mem_append_right _ (List.mem_map.mpr ⟨i, h.1, rfl⟩))
theorem zJ_ar {w : Nat → zSh} {i t n c : Nat} (hc : c < 3) (h : z_ar (w c) i t n) : z_ar (zJg w) (3 * i + c) t n := by
  have := zJ_ob (k := 10 + t) hc ⟨h.1, h.2.1⟩
  exact ⟨this.1, this.2, by rw [zJ_ln hc]; exact h.2.2⟩
theorem zJ_up {τ : Nat → zIn} {i k c : Nat} {v : Int32} (hc : c < 3) : z_up (zJs τ) (3 * i + c) k v = zJs (zp1 τ c (z_up (τ c) i k v)) := by
  funext a b
  show (if a = 3 * i + c then (if b = k then v else zJs τ a b) else zJs τ a b) = (if a % 3 = c then z_up (τ c) i k v else τ (a % 3)) (a / 3) b
  by_cases e : a = 3 * i + c
  · subst e
    rw [if_pos rfl, z3m i c hc, if_pos rfl, z3d i c hc]
    show _ = if i = i then (if b = k then v else τ c i b) else τ c i b
    rw [if_pos rfl]
    show (if b = k then v else τ ((3 * i + c) % 3) ((3 * i + c) / 3) b) = _
    rw [z3m i c hc, z3d i c hc]
  · rw [if_neg e]
    by_cases e2 : a % 3 = c
    · rw [if_pos e2]
      have : a / 3 ≠ i := by omega
      show τ (a % 3) (a / 3) b = if a / 3 = i then (if b = k then v else τ c (a / 3) b) else τ c (a / 3) b
      rw [if_neg this, e2]
    · rw [if_neg e2]; rfl
/-- both objects are told by κ n; ao, ai: where they are; the law's own part is g2, σ2, d at ad -/
def zLc (ao ai ad : Nat) (κ : zIn) (n : Nat → Nat) (g2 : zSh) (σ2 : zIn) (w : Nat → zSh) (τ : Nat → zIn) : Prop :=
  zSt (w 0) (τ 0) κ n ∧ zSt (w 1) (τ 1) κ n ∧ (w 0).2.1 1 = ao ∧ (w 1).2.1 1 = ai ∧ w 2 = g2 ∧ τ 2 = σ2 ∧ z_ar g2 1 0 48 ∧ g2.2.1 1 = ad ∧ z_wf g2
section
variable {ao ai ad : Nat} {κ : zIn} {n : Nat → Nat} {g2 : zSh} {σ2 : zIn} {w : Nat → zSh} {τ : Nat → zIn}
theorem zLc.ar (h : zLc ao ai ad κ n g2 σ2 w τ) : z_ar (zJg w) 5 0 48 := zJ_ar (i := 1) (c := 2) (by decide) (by rw [h.2.2.2.2.1]; exact h.2.2.2.2.2.2.1)
theorem zLc.da (h : zLc ao ai ad κ n g2 σ2 w τ) : (zJg w).2.1 5 = ad := by
  show (w 2).2.1 1 = ad
  rw [h.2.2.2.2.1]; exact h.2.2.2.2.2.2.2.1
theorem zLc.sd (h : zLc ao ai ad κ n g2 σ2 w τ) : zJs τ 5 = σ2 1 := by
  show τ 2 1 = _
  rw [h.2.2.2.2.2.1]
theorem zLc.up (h : zLc ao ai ad κ n g2 σ2 w τ) (k : Nat) (v : Int32) : ∃ τ', z_up (zJs τ) 5 k v = zJs τ' ∧ zLc ao ai ad κ n g2 (z_up σ2 1 k v) w τ' := by
  refine ⟨zp1 τ 2 (z_up (τ 2) 1 k v), zJ_up (i := 1) (c := 2) (by decide), ?_⟩
  obtain ⟨h1, h2, h3, h4, h5, h6, h7⟩ := h
  exact ⟨h1, h2, h3, h4, h5, by rw [zp1_at, h6], h7⟩
theorem zLc.s0 (h : zLc ao ai ad κ n g2 σ2 w τ) : zSt (w 0) (τ 0) κ n := h.1
/-- the object that is asked: the first or the second -/
def zCq (ao ai c q : Nat) : Prop := (c = 0 ∧ q = ao) ∨ (c = 1 ∧ q = ai)
theorem zLc.st (h : zLc ao ai ad κ n g2 σ2 w τ) {c q : Nat} (hc : zCq ao ai c q) : zSt (w c) (τ c) κ n ∧ (w c).2.1 1 = q ∧ c < 2 := by
  rcases hc with ⟨rfl, rfl⟩ | ⟨rfl, rfl⟩
  · exact ⟨h.1, h.2.2.1, by decide⟩
  · exact ⟨h.2.1, h.2.2.2.1, by decide⟩
theorem zLc.ob (h : zLc ao ai ad κ n g2 σ2 w τ) {c q : Nat} (hc : zCq ao ai c q) : z_ob (zJg w) (3 + c) 8 := by
  obtain ⟨h1, h2, h3⟩ := h.st hc
  have := zJ_ob (i := 1) (k := 8) (show c < 3 by omega) (zso_1 h1.S)
  rw [show 3 * 1 + c = 3 + c by omega] at this
  exact this
theorem zLc.aq (h : zLc ao ai ad κ n g2 σ2 w τ) {c q : Nat} (hc : zCq ao ai c q) : (zJg w).2.1 (3 + c) = q := by
  obtain ⟨h1, h2, h3⟩ := h.st hc
  have := zJ_ad (w := w) (i := 1) (show c < 3 by omega)
  rw [show 3 * 1 + c = 3 + c by omega] at this
  rw [this]; exact h2
theorem zLc.set (h : zLc ao ai ad κ n g2 σ2 w τ) {c q : Nat} (hc : zCq ao ai c q) {g : zSh} {σ : zIn} (hs : zSt g σ κ n) (ha : g.2.1 1 = q) : zLc ao ai ad κ n g2 σ2 (zp1 w c g) (zp1 τ c σ) := by
  obtain ⟨h1, h2, h3, h4, h5, h6, h7⟩ := h
  rcases hc with ⟨rfl, rfl⟩ | ⟨rfl, rfl⟩
  · exact ⟨hs, h2, ha, h4, h5, h6, h7⟩
  · exact ⟨h1, hs, h3, ha, h5, h6, h7⟩
/-- a call's end: the answer r; both told by κ n as before -/
def zBs (ao ai ad : Nat) (κ : zIn) (n : Nat → Nat) (g2 : zSh) (σ2 : zIn) (v0 : Value) : Option Value → zSh → zIn → Prop := fun v G S => ∃ w' τ', v = some v0 ∧ G = zJg w' ∧ S = zJs τ' ∧ zLc ao ai ad κ n g2 σ2 w' τ'
end
section
variable {l : Launch} {D : va_G} {cy : Nat → ClassId} {z0 : zRg} {ao ai ad c q : Nat} {κ : zIn} {n : Nat → Nat} {g2 : zSh} {σ2 : zIn} {w : Nat → zSh} {τ : Nat → zIn}
theorem tB_gen {w0 : Cond} {M : zM} {av : List Value} {r : Int32} {P : Prop} (h : zLc ao ai ad κ n g2 σ2 w τ) (hc : zCq ao ai c q) (hk : ∀ z1 : zRg, z_Cn w0 l D cy z1 M av (w c) (τ c) (fun v g' σ' => zAs q κ n r v g' σ' ∧ P)) : z_Cn w0 l D cy z0 M av (zJg w) (zJs τ) (fun v G S => zBs ao ai ad κ n g2 σ2 (.int r) v G S ∧ P) := by
  obtain ⟨h1, h2, h3⟩ := h.st hc
  refine (z_Cn_fr c (by omega) hk).mono ?_
  rintro v G S ⟨g', σ', ⟨⟨rfl, hs, ha⟩, hp⟩, rfl, rfl⟩
  exact ⟨⟨_, _, rfl, rfl, rfl, h.set hc hs ha⟩, hp⟩
theorem tB_gen1 {w0 : Cond} {M : zM} {av : List Value} {r : Int32} (h : zLc ao ai ad κ n g2 σ2 w τ) (hc : zCq ao ai c q) (hk : ∀ z1 : zRg, z_Cn w0 l D cy z1 M av (w c) (τ c) (zAs q κ n r)) : z_Cn w0 l D cy z0 M av (zJg w) (zJs τ) (zBs ao ai ad κ n g2 σ2 (.int r)) := by
  refine (tB_gen (P := True) h hc (fun z1 => (hk z1).mono (fun v g' σ' q => ⟨q, trivial⟩))).mono ?_
  rintro v G S ⟨q, -⟩
  exact q
theorem tB_of (h : zLc ao ai ad κ n g2 σ2 w τ) (hc : zCq ao ai c q) (m j : Nat) (hm : m < n 6) (hj : j < 6) : z_Cn (zc0 KX8_ofMessage) l D cy z0 KX8_ofMessage [.ref q, .int (nI m), .int (nI j)] (zJg w) (zJs τ) (zBs ao ai ad κ n g2 σ2 (.int (zok κ n m j))) := by
  obtain ⟨h1, rfl, h3⟩ := h.st hc
  exact tB_gen1 h hc (fun z1 => tA_of h1 m j hm hj)
theorem tB_word (h : zLc ao ai ad κ n g2 σ2 w τ) (hc : zCq ao ai c q) (b : Bool) (m k : Nat) (hm : m < n 6) (hk : k < n (100 + m)) : z_Cn (zc0 KX8_word) l D cy z0 KX8_word [.ref q, .int (nI m), .int (nI k), .int (zb b)] (zJg w) (zJs τ) (zBs ao ai ad κ n g2 σ2 (.int (if b then κ (300 + m) k else κ (400 + m) k))) := by
  obtain ⟨h1, rfl, h3⟩ := h.st hc
  exact tB_gen1 h hc (fun z1 => tA_word h1 b m k hm hk)
theorem tB_claim (h : zLc ao ai ad κ n g2 σ2 w τ) (hc : zCq ao ai c q) (m : Nat) (hm : m < n 6) : z_Cn (zc0 KX8_claim) l D cy z0 KX8_claim [.ref q, .int (nI m)] (zJg w) (zJs τ) (fun v G S => zBs ao ai ad κ n g2 σ2 (.int (zthe (zcl κ m (n (100 + m))))) v G S ∧ zcl κ m (n (100 + m)) (zthe (zcl κ m (n (100 + m))))) := by
  obtain ⟨h1, rfl, h3⟩ := h.st hc
  exact tB_gen h hc (fun z1 => tA_claim h1 m hm)
theorem tB_read (h : zLc ao ai ad κ n g2 σ2 w τ) (hc : zCq ao ai c q) (m p : Nat) (hm : m < n 6) (hp : p < 1000) : z_Cn (zc0 KX8_read) l D cy z0 KX8_read [.ref q, .int (nI m), .int (nI p)] (zJg w) (zJs τ) (zBs ao ai ad κ n g2 σ2 (.int (zthe (zrdP κ n m p)))) := by
  obtain ⟨h1, rfl, h3⟩ := h.st hc
  exact tB_gen1 h hc (fun z1 => tA_read h1 m p hm hp)
theorem tB_acc (h : zLc ao ai ad κ n g2 σ2 w τ) (hc : zCq ao ai c q) (o : Nat) (ho : o < n 3) : z_Cn (zc0 KX8_account) l D cy z0 KX8_account [.ref q, .int (nI o)] (zJg w) (zJs τ) (zBs ao ai ad κ n g2 σ2 (.int (κ (100 + o) 3))) := by
  obtain ⟨h1, rfl, h3⟩ := h.st hc
  exact tB_gen1 h hc (fun z1 => tA_acc h1 o ho)
theorem tB_anew (h : zLc ao ai ad κ n g2 σ2 w τ) (hc : zCq ao ai c q) (o : Nat) (ho : o < n 3) : z_Cn (zc0 KX8_accountAnew) l D cy z0 KX8_accountAnew [.ref q, .int (nI o)] (zJg w) (zJs τ) (zBs ao ai ad κ n g2 σ2 (.int (zbal κ n o))) := by
  obtain ⟨h1, rfl, h3⟩ := h.st hc
  exact tB_gen1 h hc (fun z1 => tA_anew h1 o ho)
theorem tB_words (h : zLc ao ai ad κ n g2 σ2 w τ) (hc : zCq ao ai c q) (o : Nat) (b : Bool) (ho : o < n 3) : z_Cn (zc0 KX8_words) l D cy z0 KX8_words [.ref q, .int (nI o), .int (zb b)] (zJg w) (zJs τ) (fun v G S => zBs ao ai ad κ n g2 σ2 (.int (zthe (zwpP κ n o b))) v G S ∧ zwpP κ n o b (zthe (zwpP κ n o b))) := by
  obtain ⟨h1, rfl, h3⟩ := h.st hc
  exact tB_gen h hc (fun z1 => tA_words h1 o b ho)
theorem tB_cands (h : zLc ao ai ad κ n g2 σ2 w τ) (hc : zCq ao ai c q) (wd : Int32) (hw : zwd wd) : z_Cn (zc0 KX8_candidates) l D cy z0 KX8_candidates [.ref q, .int wd] (zJg w) (zJs τ) (zBs ao ai ad κ n g2 σ2 (.int (nI (zcnt (zP (κ 4) (n 1) wd) (n 1))))) := by
  obtain ⟨h1, rfl, h3⟩ := h.st hc
  exact tB_gen1 h hc (fun z1 => tA_cands h1 wd hw)
theorem tB_cand (h : zLc ao ai ad κ n g2 σ2 w τ) (hc : zCq ao ai c q) (wd : Int32) (p : Nat) (hw : zwd wd) (hp : p < 1000) : z_Cn (zc0 KX8_candidate) l D cy z0 KX8_candidate [.ref q, .int wd, .int (nI p)] (zJg w) (zJs τ) (fun v G S => ∃ r, zBs ao ai ad κ n g2 σ2 (.int r) v G S ∧ zcaP κ n wd (nI p) r) := by
  obtain ⟨h1, h2, h3⟩ := h.st hc
  subst h2
  refine (z_Cn_fr c (by omega) (fun z1 => tA_cand h1 wd p hw hp)).mono ?_
  rintro v G S ⟨g', σ', ⟨r, ⟨rfl, hs, ha⟩, hr⟩, rfl, rfl⟩
  exact ⟨r, ⟨_, _, rfl, rfl, rfl, h.set hc hs ha⟩, hr⟩
theorem z_Cw_fr {M : zM} {hh : zHs} {av : List Value} {Post : Option Value → zSh → zIn → Prop} (c : Nat) (hc : c < 3) (h : ∀ z1 : zRg, z_Cw l D cy z1 M hh av (w c) (τ c) Post) : z_Cw l D cy z0 M hh av (zJg w) (zJs τ) (fun v G S => ∃ g' σ', Post v g' σ' ∧ G = zJg (zp1 w c g') ∧ S = zJs (zp1 τ c σ')) :=
  z_Cn_fr (w0 := .codeWith M.1 M.2.1 M.2.2.1 M.2.2.2.1 hh) c hc h
/-- a call of the first object alone that is refused -/
theorem tB_no {k : Nat} {nms : List String} {E : String} {w5 a5 b5 c5 d5 e5 : Int32} (h : zLc ao ai ad κ n g2 σ2 w τ) (hk : zXk nms k E) {ok : zRl9} (hc : ∀ g σ, zSt g σ κ n → ∀ z1 : zRg, z_Cx l D cy z1 NL_does [.ref (g.2.1 1), .int w5, .int a5, .int b5, .int c5, .int d5, .int e5] g σ (zRs (g.2.1 1) (zRk nms k κ n ok)) (zRx (g.2.1 1) (zRk nms k κ n ok) κ n)) :
    z_Cw l D cy z0 NL_call hL_call [.ref ao, .int w5, .int a5, .int b5, .int c5, .int d5, .int e5] (zJg w) (zJs τ) (zBs ao ai ad κ n g2 σ2 (.int (zcd9 E))) := by
  have h2 := h.2.2.1
  subst h2
  refine (z_Cw_fr 0 (by decide) (fun z1 => tL_call w5 a5 b5 c5 d5 e5 (hc _ _ h.1 z1))).mono ?_
  rintro v G S ⟨g', σ', ⟨r, κ1, n1, rfl, hr, hs, ha⟩, rfl, rfl⟩
  obtain ⟨rfl, rfl, rfl⟩ := zRk_1 hk hr
  exact ⟨_, _, rfl, rfl, rfl, h.set (Or.inl ⟨rfl, rfl⟩) hs ha⟩
end
section ZA
variable {p : Program} {l : Launch} {e : Env} {R : Room} {s : State} {m : MethodId} {args : Array Value} {below : List Frame} {meth : Method} {c : Code} {cells slots : Nat} {Q : State → Prop} {own nm : String} {cc : ByteArray} {nL : Nat} {ret : Option FieldType} {D : va_G} {cy : Nat → ClassId} {z0 : zRg} {pc : Nat} {L : List (Option Value)} {st : List Value} {g : zSh} {σ : zIn}
theorem z_runVa (X : z_cx p s m args meth c own cc nL ret nm D cy z0) (Y : zTh z0 s) {idx n b ci q : Nat} {M : zM} {As rest : List Value} {Post : Option Value → zSh → zIn → Prop} (F : z_cV own idx M n ci) (h : z_Cn (zc0 M) l D cy z0 M (.ref q :: As) g σ Post) (ho : z_ob g b ci) (he : g.2.1 b = q) (hn : As.length = n) (hst : st = As.reverse ++ .ref q :: rest) (hcat : (rest.map fun v => v.category).sum ≤ 8) (hR : M.2.2.2.2.1 + 1 ≤ R.frames ∧ 8 + (M.2.2.1 + 11) + M.2.2.2.2.2.2.2 ≤ R.locals) (hc : cells + M.2.2.2.2.2.1 ≤ R.cells ∧ slots + M.2.2.2.2.2.2.1 ≤ R.slots) (d : decode cc pc = .ok (.invokevirtual idx, 3))
    (kk : ∀ (v : Option Value) (g' : zSh) (σ' : zIn), Post v g' σ' → z_V p l e R s m args below meth c nL D cy z0 (cells + M.2.2.2.2.2.1) (slots + M.2.2.2.2.2.2.1) Q (pc + 3) (L) (v.toList ++ rest) g' σ') : z_V p l e R s m args below meth c nL D cy z0 cells slots Q (pc) (L) (st) g σ := by
  subst he
  exact z_runVn X Y F h ho hn hst hcat hR hc d kk
theorem z_ialda (X : z_cx p s m args meth c own cc nL ret nm D cy z0) {i n x q : Nat} (ha : z_ar g i 0 n) (he : g.2.1 i = q) (hin : x < n) (hb : x < 2 ^ 31) (d : decode cc pc = .ok (.iaload, 1)) (kk : z_V p l e R s m args below meth c nL D cy z0 cells slots Q (pc + 1) (L) (.int (σ i x) :: st) g σ) : z_V p l e R s m args below meth c nL D cy z0 cells slots Q (pc) (L) (.int (nI x) :: .ref q :: st) g σ := by
  subst he
  exact z_ialdN X ha hin hb d kk
theorem z_iasta (X : z_cx p s m args meth c own cc nL ret nm D cy z0) {i n x q : Nat} {v : Int32} (ha : z_ar g i 0 n) (he : g.2.1 i = q) (hin : x < n) (hb : x < 2 ^ 31) (d : decode cc pc = .ok (.iastore, 1)) (kk : z_V p l e R s m args below meth c nL D cy z0 cells slots Q (pc + 1) (L) (st) g (z_up σ i x v)) : z_V p l e R s m args below meth c nL D cy z0 cells slots Q (pc) (L) (.int v :: .int (nI x) :: .ref q :: st) g σ := by
  subst he
  exact z_iastN X ha hin hb d kk
theorem z_lret (X : z_cx p s m args meth c own cc nL ret nm D cy z0) {rc rs : Nat} {Post : Option Value → zSh → zIn → Prop} {v : Int64} (hc : cells ≤ rc) (hs : slots ≤ rs) (hre : ret = some .long) (d : decode cc pc = .ok (.lreturn, 1)) (hp : Post (some (.long v)) g σ) : z_V p l e R s m args below meth c nL D cy z0 cells slots (MQ below (z_Qc D cy z0 Post) args s rc rs (z_A z0)) (pc) (L) ([.long v]) g σ := by
  intro H locs ls hP hD hS hL
  obtain ⟨hx, hb, hml, hown, hts, hN, hK, hz, hr, hnm, hlk⟩ := X
  subst hre
  refine W.widen hc hs ?_
  exact W.lret hx hb hr (fun t ht hW => ⟨⟨_, g, σ, rfl, hp, by rw [ht]; exact hP, hD⟩, hS.F ht⟩) hS.2.2 d
/-- as if more had been made -/
theorem z_wid {ce sl : Nat} (h1 : cells ≤ ce) (h2 : slots ≤ sl) (k : z_V p l e R s m args below meth c nL D cy z0 ce sl Q pc L st g σ) : z_V p l e R s m args below meth c nL D cy z0 cells slots Q pc L st g σ :=
  fun H locs ls hP hD hS hL => W.widen h1 h2 (k H locs ls hP hD hS hL)
end ZA
