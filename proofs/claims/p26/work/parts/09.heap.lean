/-! the rows of z_V that touch the heap -/
def z_ob (g : zSh) (i ci : Nat) : Prop := i ∈ g.1 ∧ g.2.2.1 i = ci
def z_ar (g : zSh) (i t n : Nat) : Prop := i ∈ g.1 ∧ g.2.2.1 i = 10 + t ∧ g.2.2.2.1 i = n
def z_fa (own : String) (idx ci k : Nat) (ty : FieldType) (fin : Bool) : Prop := ∃ (C : String) (T : u_T) (N : Nat) (ty0 : Nat → FieldType), vwCl[ci]? = some (C, T, N) ∧ ci < 10 ∧ k < N ∧ (z_isr ci).length = N ∧ (∀ w ∈ u_ws C T N, w ∈ lw_good) ∧ (∀ k, k < N → parseFieldDescriptor (T k).2.2.1 = some (ty0 k)) ∧ (∀ a, a < N → ∀ b, b < N → a ≠ b → (T a).2.1 ≠ (T b).2.1) ∧ ty0 k = ty ∧ (T k).2.2.2 = fin ∧ (T k).1 = C ∧ (Cond.fieldLink own idx C (T k).2.1 (T k).2.2.1 ∈ lw_good ∨ ∃ host, Cond.fieldLinkNest own idx C (T k).2.1 (T k).2.2.1 host ∈ lw_nest)
def z_upR (r : Nat → Nat → Nat) (i k j : Nat) : Nat → Nat → Nat := fun i' k' => if i' = i then (if k' = k then j else r i' k') else r i' k'
theorem z_upR_ne {r : Nat → Nat → Nat} {i j k v : Nat} (h : j ≠ i) : z_upR r i k v j = r j := by funext k'; simp [z_upR, h]
def z_gr (g : zSh) (i k j : Nat) : zSh := (g.1, g.2.1, g.2.2.1, g.2.2.2.1, z_upR g.2.2.2.2 i k j)
theorem z_cel_ob {cy : Nat → ClassId} {g : zSh} {i ci : Nat} {f : Nat → Int32} (h : g.2.2.1 i = ci) (hc : ci < 10) : z_cel cy g i f = .inr (ci, (z_isr ci).mapIdx (fun k b => if b then z_rv g (g.2.2.2.2 i k) else .int (f k))) := by
  subst h; simp [z_cel, hc]
theorem z_cel_I {cy : Nat → ClassId} {g : zSh} {i n : Nat} {f : Nat → Int32} (h : g.2.2.1 i = 10 + 0) (hn : g.2.2.2.1 i = n) : z_cel cy g i f = .inl (cy 0, n, .inl f) := by simp [z_cel, h, hn]
theorem z_cel_Z {cy : Nat → ClassId} {g : zSh} {i n : Nat} {f : Nat → Int32} (h : g.2.2.1 i = 10 + 1) (hn : g.2.2.2.1 i = n) : z_cel cy g i f = .inl (cy 1, n, .inl f) := by simp [z_cel, h, hn]
theorem z_cel_J {cy : Nat → ClassId} {g : zSh} {i n : Nat} {f : Nat → Int32} (h : g.2.2.1 i = 10 + 2) (hn : g.2.2.2.1 i = n) : z_cel cy g i f = .inl (cy 2, n, .inr (.inl (fun k => (f k).toInt64))) := by simp [z_cel, h, hn]
theorem z_cel_Q {cy : Nat → ClassId} {g : zSh} {i n t : Nat} {f : Nat → Int32} (ht : 3 ≤ t) (h : g.2.2.1 i = 10 + t) (hn : g.2.2.2.1 i = n) : z_cel cy g i f = .inl (cy t, n, .inr (.inr (.inr (.inr (fun k => z_ro g (g.2.2.2.2 i k)))))) := by
  have h1 : ¬ 10 + t < 10 := by omega
  have h2 : ¬ 10 + t < 12 := by omega
  have h3 : ¬ 10 + t = 12 := by omega
  have h4 : ¬ t = 2 := by omega
  simp [z_cel, h, hn, h1, h2, h3, h4]
theorem z_set_f {cy : Nat → ClassId} {g : zSh} {σ : zIn} {A : Nat → Prop} {q i k : Nat} {v : Int32} {e' : va_E} (hD : va_D A (z_w cy g σ)) (hi : g.1[q]? = some i) (he : z_cel cy g i (upd (σ i) k v) = e') : (z_w cy g σ).set q (g.2.1 i, e') = z_w cy g (z_up σ i k v) :=
  z_set hD hi rfl rfl (fun j hj => by rw [z_up_ne hj]) (by rw [z_up_at]; exact he)
theorem z_set_r {cy : Nat → ClassId} {g : zSh} {σ : zIn} {A : Nat → Prop} {q i k j : Nat} {e' : va_E} (hD : va_D A (z_w cy g σ)) (hi : g.1[q]? = some i) (he : z_cel cy (z_gr g i k j) i (σ i) = e') : (z_w cy g σ).set q (g.2.1 i, e') = z_w cy (z_gr g i k j) σ :=
  z_set hD hi rfl rfl (fun y hy => by simp only [z_cel, z_gr, z_upR_ne hy]; rfl) he
theorem z_tys_at {cy : Nat → ClassId} {t : Nat} (ht : t < 7) : (z_tys cy)[t]? = some (cy t, z_aty t) := by
  match t, ht with
  | 0, _ => rfl
  | 1, _ => rfl
  | 2, _ => rfl
  | 3, _ => rfl
  | 4, _ => rfl
  | 5, _ => rfl
  | 6, _ => rfl

section ZR
variable {p : Program} {l : Launch} {e : Env} {R : Room} {s : State} {m : MethodId} {args : Array Value} {below : List Frame} {meth : Method} {c : Code} {cells slots : Nat} {Q : State → Prop} {own nm : String} {cc : ByteArray} {nL : Nat} {ret : Option FieldType} {D : va_G} {cy : Nat → ClassId} {z0 : zRg} {pc : Nat} {L : List (Option Value)} {st : List Value} {g : zSh} {σ : zIn}

theorem z_geti (X : z_cx p s m args meth c own cc nL ret nm D cy z0) {idx ci k i : Nat} {ty : FieldType} {fin : Bool} (F : z_fa own idx ci k ty fin) (ho : z_ob g i ci)  (hb : (z_isr ci)[k]? = some false) (d : decode cc pc = .ok (.getfield idx, 3)) (kk : z_V p l e R s m args below meth c nL D cy z0 cells slots Q (pc + 3) (L) (.int (σ i k) :: st) g σ) : z_V p l e R s m args below meth c nL D cy z0 cells slots Q (pc) (L) (.ref (g.2.1 i) :: st) g σ := by
  intro H locs ls hP hD hS hL
  obtain ⟨hx, hb', hml, hown, hts, hN, hK, hz, hr, hnm, hlk⟩ := X
  obtain ⟨hi, hk9⟩ := ho
  obtain ⟨C, T, N, ty0, f1, f2, f3, f4, f5, f6, f7, f8, f9, f10, f11⟩ := F
  obtain ⟨q, q1, q2⟩ := z_get_k (cy := cy) (σ := σ) hi
  rw [z_cel_ob hk9 f2] at q2
  have hv : ((z_isr ci).mapIdx (fun k b => if b then z_rv g (g.2.2.2.2 i k) else Value.int (σ i k)))[k]? = some (.int (σ i k)) := by
    rw [List.getElem?_mapIdx, hb]; rfl
  rcases f11 with f11 | ⟨host, f11⟩
  · exact va_get (T := T) (N := N) hx hb' hts f5 hown hK hP q q2 f1 k f3 (hts _ f11) (fun x h => by rw [f10] at h; exact h) hv d (kk H locs ls hP hD hS hL)
  · exact va_getN (T := T) (N := N) (host := host) hx hb' hts f5 hown hK hP q q2 f1 k f3 (va_Nw.use rfl (hN _ f11)) (fun x h => by rw [f10] at h; exact h) hv d (kk H locs ls hP hD hS hL)
theorem z_getr (X : z_cx p s m args meth c own cc nL ret nm D cy z0) {idx ci k i : Nat} {ty : FieldType} {fin : Bool} (F : z_fa own idx ci k ty fin) (ho : z_ob g i ci) {j : Nat} (hr2 : g.2.2.2.2 i k = j) (hj : j ≠ 0) (hb : (z_isr ci)[k]? = some true) (d : decode cc pc = .ok (.getfield idx, 3)) (kk : z_V p l e R s m args below meth c nL D cy z0 cells slots Q (pc + 3) (L) (.ref (g.2.1 j) :: st) g σ) : z_V p l e R s m args below meth c nL D cy z0 cells slots Q (pc) (L) (.ref (g.2.1 i) :: st) g σ := by
  intro H locs ls hP hD hS hL
  obtain ⟨hx, hb', hml, hown, hts, hN, hK, hz, hr, hnm, hlk⟩ := X
  obtain ⟨hi, hk9⟩ := ho
  obtain ⟨C, T, N, ty0, f1, f2, f3, f4, f5, f6, f7, f8, f9, f10, f11⟩ := F
  obtain ⟨q, q1, q2⟩ := z_get_k (cy := cy) (σ := σ) hi
  rw [z_cel_ob hk9 f2] at q2
  have hv : ((z_isr ci).mapIdx (fun k b => if b then z_rv g (g.2.2.2.2 i k) else Value.int (σ i k)))[k]? = some (.ref (g.2.1 j)) := by
    rw [List.getElem?_mapIdx, hb]; simp [z_rv, z_ro, hr2, hj, va_rf]
  rcases f11 with f11 | ⟨host, f11⟩
  · exact va_get (T := T) (N := N) hx hb' hts f5 hown hK hP q q2 f1 k f3 (hts _ f11) (fun x h => by rw [f10] at h; exact h) hv d (kk H locs ls hP hD hS hL)
  · exact va_getN (T := T) (N := N) (host := host) hx hb' hts f5 hown hK hP q q2 f1 k f3 (va_Nw.use rfl (hN _ f11)) (fun x h => by rw [f10] at h; exact h) hv d (kk H locs ls hP hD hS hL)
theorem z_puti (X : z_cx p s m args meth c own cc nL ret nm D cy z0) {idx ci k i : Nat} (F : z_fa own idx ci k .int false) (ho : z_ob g i ci) {v : Int32}  (hb : (z_isr ci)[k]? = some false) (d : decode cc pc = .ok (.putfield idx, 3)) (kk : z_V p l e R s m args below meth c nL D cy z0 cells slots Q (pc + 3) (L) (st) g (z_up σ i k v)) : z_V p l e R s m args below meth c nL D cy z0 cells slots Q (pc) (L) (.int v :: .ref (g.2.1 i) :: st) g σ := by
  intro H locs ls hP hD hS hL
  obtain ⟨hx, hb', hml, hown, hts, hN, hK, hz, hr, hnm, hlk⟩ := X
  obtain ⟨hi, hk9⟩ := ho
  obtain ⟨C, T, N, ty0, f1, f2, f3, f4, f5, f6, f7, f8, f9, f10, f11⟩ := F
  obtain ⟨q, q1, q2⟩ := z_get_k (cy := cy) (σ := σ) hi
  rw [z_cel_ob hk9 f2] at q2
  have hl : k < ((z_isr ci).mapIdx (fun k b => if b then z_rv g (g.2.2.2.2 i k) else Value.int (σ i k))).length := by rw [List.length_mapIdx, f4]; exact f3
  have he : (.inr (ci, ((z_isr ci).mapIdx (fun k b => if b then z_rv g (g.2.2.2.2 i k) else Value.int (σ i k))).set k (.int v)) : va_E) = z_cel cy g i (upd (σ i) k v) := by
    rw [z_cel_ob hk9 f2]
    congr 2
    apply List.ext_getElem?
    intro n
    by_cases hn : n = k
    · subst hn
      rw [List.getElem?_set_self hl, List.getElem?_mapIdx, hb]
      simp [upd]
    · rw [List.getElem?_set_ne (Ne.symm hn), List.getElem?_mapIdx, List.getElem?_mapIdx]
      cases (z_isr ci)[n]? with
      | none => rfl
      | some b => cases b <;> simp [upd, hn]
  have hty : parseFieldDescriptor (T k).2.2.1 = some .int := by rw [f6 k f3, f8]
  have hnr : narrow .int (.int v) = .int v := rfl
  have hft9 : fits .int (.int v) = true := rfl
  rcases f11 with f11 | ⟨host, f11⟩
  · exact va_put (T := T) (N := N) hx hb' hts f5 ty0 f6 f7 hown hK hP hD hS q q2 f1 k f3 (hts _ f11) (fun x h => by rw [f10] at h; exact h) f9 hty hnr hft9 hl d (fun H1 locs1 h1 h2 h3 => by rw [he, z_set_f hD q1 rfl] at h1 h2; exact kk H1 locs1 ls h1 h2 h3 hL)
  · exact va_putN (T := T) (N := N) (host := host) hx hb' hts f5 ty0 f6 f7 hown hK hP hD hS q q2 f1 k f3 (va_Nw.use rfl (hN _ f11)) (fun x h => by rw [f10] at h; exact h) f9 hty hnr hft9 hl d (fun H1 locs1 h1 h2 h3 => by rw [he, z_set_f hD q1 rfl] at h1 h2; exact kk H1 locs1 ls h1 h2 h3 hL)
theorem z_putz (X : z_cx p s m args meth c own cc nL ret nm D cy z0) {idx ci k i : Nat} (F : z_fa own idx ci k .boolean false) (ho : z_ob g i ci) {v : Int32} (hv : v = 0 ∨ v = 1) (hb : (z_isr ci)[k]? = some false) (d : decode cc pc = .ok (.putfield idx, 3)) (kk : z_V p l e R s m args below meth c nL D cy z0 cells slots Q (pc + 3) (L) (st) g (z_up σ i k v)) : z_V p l e R s m args below meth c nL D cy z0 cells slots Q (pc) (L) (.int v :: .ref (g.2.1 i) :: st) g σ := by
  intro H locs ls hP hD hS hL
  obtain ⟨hx, hb', hml, hown, hts, hN, hK, hz, hr, hnm, hlk⟩ := X
  obtain ⟨hi, hk9⟩ := ho
  obtain ⟨C, T, N, ty0, f1, f2, f3, f4, f5, f6, f7, f8, f9, f10, f11⟩ := F
  obtain ⟨q, q1, q2⟩ := z_get_k (cy := cy) (σ := σ) hi
  rw [z_cel_ob hk9 f2] at q2
  have hl : k < ((z_isr ci).mapIdx (fun k b => if b then z_rv g (g.2.2.2.2 i k) else Value.int (σ i k))).length := by rw [List.length_mapIdx, f4]; exact f3
  have he : (.inr (ci, ((z_isr ci).mapIdx (fun k b => if b then z_rv g (g.2.2.2.2 i k) else Value.int (σ i k))).set k (.int v)) : va_E) = z_cel cy g i (upd (σ i) k v) := by
    rw [z_cel_ob hk9 f2]
    congr 2
    apply List.ext_getElem?
    intro n
    by_cases hn : n = k
    · subst hn
      rw [List.getElem?_set_self hl, List.getElem?_mapIdx, hb]
      simp [upd]
    · rw [List.getElem?_set_ne (Ne.symm hn), List.getElem?_mapIdx, List.getElem?_mapIdx]
      cases (z_isr ci)[n]? with
      | none => rfl
      | some b => cases b <;> simp [upd, hn]
  have hty : parseFieldDescriptor (T k).2.2.1 = some .boolean := by rw [f6 k f3, f8]
  have hnr : narrow .boolean (.int v) = .int v := by rcases hv with rfl | rfl <;> rfl
  have hft9 : fits .boolean (.int v) = true := by rcases hv with rfl | rfl <;> rfl
  rcases f11 with f11 | ⟨host, f11⟩
  · exact va_put (T := T) (N := N) hx hb' hts f5 ty0 f6 f7 hown hK hP hD hS q q2 f1 k f3 (hts _ f11) (fun x h => by rw [f10] at h; exact h) f9 hty hnr hft9 hl d (fun H1 locs1 h1 h2 h3 => by rw [he, z_set_f hD q1 rfl] at h1 h2; exact kk H1 locs1 ls h1 h2 h3 hL)
  · exact va_putN (T := T) (N := N) (host := host) hx hb' hts f5 ty0 f6 f7 hown hK hP hD hS q q2 f1 k f3 (va_Nw.use rfl (hN _ f11)) (fun x h => by rw [f10] at h; exact h) f9 hty hnr hft9 hl d (fun H1 locs1 h1 h2 h3 => by rw [he, z_set_f hD q1 rfl] at h1 h2; exact kk H1 locs1 ls h1 h2 h3 hL)
def z_fp (own : String) (idx ci k : Nat) (ty : FieldType) : Prop := ∃ (T : u_T) (N : Nat) (ty0 : Nat → FieldType), vwCl[ci]? = some (own, T, N) ∧ ci < 10 ∧ k < N ∧ (z_isr ci).length = N ∧ (∀ w ∈ u_ws own T N, w ∈ lw_good) ∧ (∀ k, k < N → parseFieldDescriptor (T k).2.2.1 = some (ty0 k)) ∧ (∀ a, a < N → ∀ b, b < N → a ≠ b → (T a).2.1 ≠ (T b).2.1) ∧ ty0 k = ty ∧ (T k).2.2.2 = true ∧ (T k).1 = own ∧ Cond.fieldLink own idx own (T k).2.1 (T k).2.2.1 ∈ lw_good
theorem z_putfi (X : z_cx p s m args meth c own cc nL ret nm D cy z0) {idx ci k i : Nat} (F : z_fp own idx ci k .int) (ho : z_ob g i ci) {v : Int32}  (hb : (z_isr ci)[k]? = some false) (hnm9 : nm = "<init>") (d : decode cc pc = .ok (.putfield idx, 3)) (kk : z_V p l e R s m args below meth c nL D cy z0 cells slots Q (pc + 3) (L) (st) g (z_up σ i k v)) : z_V p l e R s m args below meth c nL D cy z0 cells slots Q (pc) (L) (.int v :: .ref (g.2.1 i) :: st) g σ := by
  intro H locs ls hP hD hS hL
  obtain ⟨hx, hb', hml, hown, hts, hN, hK, hz, hr, hnm, hlk⟩ := X
  obtain ⟨hi, hk9⟩ := ho
  obtain ⟨T, N, ty0, f1, f2, f3, f4, f5, f6, f7, f8, f9, f10, f11⟩ := F
  obtain ⟨q, q1, q2⟩ := z_get_k (cy := cy) (σ := σ) hi
  rw [z_cel_ob hk9 f2] at q2
  have hl : k < ((z_isr ci).mapIdx (fun k b => if b then z_rv g (g.2.2.2.2 i k) else Value.int (σ i k))).length := by rw [List.length_mapIdx, f4]; exact f3
  have he : (.inr (ci, ((z_isr ci).mapIdx (fun k b => if b then z_rv g (g.2.2.2.2 i k) else Value.int (σ i k))).set k (.int v)) : va_E) = z_cel cy g i (upd (σ i) k v) := by
    rw [z_cel_ob hk9 f2]
    congr 2
    apply List.ext_getElem?
    intro n
    by_cases hn : n = k
    · subst hn
      rw [List.getElem?_set_self hl, List.getElem?_mapIdx, hb]
      simp [upd]
    · rw [List.getElem?_set_ne (Ne.symm hn), List.getElem?_mapIdx, List.getElem?_mapIdx]
      cases (z_isr ci)[n]? with
      | none => rfl
      | some b => cases b <;> simp [upd, hn]
  have hty : parseFieldDescriptor (T k).2.2.1 = some .int := by rw [f6 k f3, f8]
  have hnr : narrow .int (.int v) = .int v := rfl
  have hft9 : fits .int (.int v) = true := rfl
  exact va_putF (T := T) (N := N) hx hb' hts f5 ty0 f6 f7 hown hK hP hD hS q q2 f1 k f3 (hts _ f11) (fun x h => by rw [f10] at h; exact h) f9 (hnm.trans hnm9) f10 hty hnr hft9 hl d (fun H1 locs1 h1 h2 h3 => by rw [he, z_set_f hD q1 rfl] at h1 h2; exact kk H1 locs1 ls h1 h2 h3 hL)
theorem z_putfz (X : z_cx p s m args meth c own cc nL ret nm D cy z0) {idx ci k i : Nat} (F : z_fp own idx ci k .boolean) (ho : z_ob g i ci) {v : Int32} (hv : v = 0 ∨ v = 1) (hb : (z_isr ci)[k]? = some false) (hnm9 : nm = "<init>") (d : decode cc pc = .ok (.putfield idx, 3)) (kk : z_V p l e R s m args below meth c nL D cy z0 cells slots Q (pc + 3) (L) (st) g (z_up σ i k v)) : z_V p l e R s m args below meth c nL D cy z0 cells slots Q (pc) (L) (.int v :: .ref (g.2.1 i) :: st) g σ := by
  intro H locs ls hP hD hS hL
  obtain ⟨hx, hb', hml, hown, hts, hN, hK, hz, hr, hnm, hlk⟩ := X
  obtain ⟨hi, hk9⟩ := ho
  obtain ⟨T, N, ty0, f1, f2, f3, f4, f5, f6, f7, f8, f9, f10, f11⟩ := F
  obtain ⟨q, q1, q2⟩ := z_get_k (cy := cy) (σ := σ) hi
  rw [z_cel_ob hk9 f2] at q2
  have hl : k < ((z_isr ci).mapIdx (fun k b => if b then z_rv g (g.2.2.2.2 i k) else Value.int (σ i k))).length := by rw [List.length_mapIdx, f4]; exact f3
  have he : (.inr (ci, ((z_isr ci).mapIdx (fun k b => if b then z_rv g (g.2.2.2.2 i k) else Value.int (σ i k))).set k (.int v)) : va_E) = z_cel cy g i (upd (σ i) k v) := by
    rw [z_cel_ob hk9 f2]
    congr 2
    apply List.ext_getElem?
    intro n
    by_cases hn : n = k
    · subst hn
      rw [List.getElem?_set_self hl, List.getElem?_mapIdx, hb]
      simp [upd]
    · rw [List.getElem?_set_ne (Ne.symm hn), List.getElem?_mapIdx, List.getElem?_mapIdx]
      cases (z_isr ci)[n]? with
      | none => rfl
      | some b => cases b <;> simp [upd, hn]
  have hty : parseFieldDescriptor (T k).2.2.1 = some .boolean := by rw [f6 k f3, f8]
  have hnr : narrow .boolean (.int v) = .int v := by rcases hv with rfl | rfl <;> rfl
  have hft9 : fits .boolean (.int v) = true := by rcases hv with rfl | rfl <;> rfl
  exact va_putF (T := T) (N := N) hx hb' hts f5 ty0 f6 f7 hown hK hP hD hS q q2 f1 k f3 (hts _ f11) (fun x h => by rw [f10] at h; exact h) f9 (hnm.trans hnm9) f10 hty hnr hft9 hl d (fun H1 locs1 h1 h2 h3 => by rw [he, z_set_f hD q1 rfl] at h1 h2; exact kk H1 locs1 ls h1 h2 h3 hL)
theorem z_putfr (X : z_cx p s m args meth c own cc nL ret nm D cy z0) {idx ci k i j : Nat} {ty : FieldType} (F : z_fp own idx ci k ty) (ho : z_ob g i ci) (hj : j ≠ 0) (hnr : ∀ a, narrow ty (.ref a) = .ref a) (hft : ∀ a, fits ty (.ref a) = true) (hb : (z_isr ci)[k]? = some true) (hnm9 : nm = "<init>") (d : decode cc pc = .ok (.putfield idx, 3)) (kk : z_V p l e R s m args below meth c nL D cy z0 cells slots Q (pc + 3) (L) (st) (z_gr g i k j) σ) : z_V p l e R s m args below meth c nL D cy z0 cells slots Q (pc) (L) (.ref (g.2.1 j) :: .ref (g.2.1 i) :: st) g σ := by
  intro H locs ls hP hD hS hL
  obtain ⟨hx, hb', hml, hown, hts, hN, hK, hz, hr, hnm, hlk⟩ := X
  obtain ⟨hi, hk9⟩ := ho
  obtain ⟨T, N, ty0, f1, f2, f3, f4, f5, f6, f7, f8, f9, f10, f11⟩ := F
  obtain ⟨q, q1, q2⟩ := z_get_k (cy := cy) (σ := σ) hi
  rw [z_cel_ob hk9 f2] at q2
  have hl : k < ((z_isr ci).mapIdx (fun k b => if b then z_rv g (g.2.2.2.2 i k) else Value.int (σ i k))).length := by rw [List.length_mapIdx, f4]; exact f3
  have he : (.inr (ci, ((z_isr ci).mapIdx (fun k b => if b then z_rv g (g.2.2.2.2 i k) else Value.int (σ i k))).set k (.ref (g.2.1 j))) : va_E) = z_cel cy (z_gr g i k j) i (σ i) := by
    rw [z_cel_ob (show (z_gr g i k j).2.2.1 i = ci from hk9) f2]
    congr 2
    apply List.ext_getElem?
    intro n
    by_cases hn : n = k
    · subst hn
      rw [List.getElem?_set_self hl, List.getElem?_mapIdx, hb]
      simp [z_gr, z_upR, z_rv, z_ro, hj, va_rf]
    · rw [List.getElem?_set_ne (Ne.symm hn), List.getElem?_mapIdx, List.getElem?_mapIdx]
      cases (z_isr ci)[n]? with
      | none => rfl
      | some b => cases b <;> simp [z_gr, z_upR, hn, z_rv, z_ro]
  have hty : parseFieldDescriptor (T k).2.2.1 = some ty := by rw [f6 k f3, f8]
  exact va_putF (T := T) (N := N) hx hb' hts f5 ty0 f6 f7 hown hK hP hD hS q q2 f1 k f3 (hts _ f11) (fun x h => by rw [f10] at h; exact h) f9 (hnm.trans hnm9) f10 hty (hnr _) (hft _) hl d (fun H1 locs1 h1 h2 h3 => by rw [he, z_set_r hD q1 rfl] at h1 h2; exact kk H1 locs1 ls h1 h2 h3 hL)
theorem z_iald (X : z_cx p s m args meth c own cc nL ret nm D cy z0) {i n : Nat} {x : Int32} (ha : z_ar g i 0 n) (hin : vp_in x n) (d : decode cc pc = .ok (.iaload, 1)) (kk : z_V p l e R s m args below meth c nL D cy z0 cells slots Q (pc + 1) (L) (.int (σ i x.toNatClampNeg) :: st) g σ) : z_V p l e R s m args below meth c nL D cy z0 cells slots Q (pc) (L) (.int x :: .ref (g.2.1 i) :: st) g σ := by
  intro H locs ls hP hD hS hL
  obtain ⟨hx, hb', hml, hown, hts, hN, hK, hz, hr, hnm, hlk⟩ := X
  obtain ⟨hi, hk9, hn9⟩ := ha
  obtain ⟨q, q1, q2⟩ := z_get_k (cy := cy) (σ := σ) hi
  rw [z_cel_I hk9 hn9] at q2
  exact va_iald hx hb' hK hP q 0 q2 rfl hin d (kk H locs ls hP hD hS hL)
theorem z_zald (X : z_cx p s m args meth c own cc nL ret nm D cy z0) {i n : Nat} {x : Int32} (ha : z_ar g i 1 n) (hin : vp_in x n) (d : decode cc pc = .ok (.baload, 1)) (kk : z_V p l e R s m args below meth c nL D cy z0 cells slots Q (pc + 1) (L) (.int (σ i x.toNatClampNeg) :: st) g σ) : z_V p l e R s m args below meth c nL D cy z0 cells slots Q (pc) (L) (.int x :: .ref (g.2.1 i) :: st) g σ := by
  intro H locs ls hP hD hS hL
  obtain ⟨hx, hb', hml, hown, hts, hN, hK, hz, hr, hnm, hlk⟩ := X
  obtain ⟨hi, hk9, hn9⟩ := ha
  obtain ⟨q, q1, q2⟩ := z_get_k (cy := cy) (σ := σ) hi
  rw [z_cel_Z hk9 hn9] at q2
  exact va_zald hx hb' hK hP q 1 q2 rfl hin d (kk H locs ls hP hD hS hL)
theorem z_iast (X : z_cx p s m args meth c own cc nL ret nm D cy z0) {i n : Nat} {x v : Int32} (ha : z_ar g i 0 n) (hin : vp_in x n)  (d : decode cc pc = .ok (.iastore, 1)) (kk : z_V p l e R s m args below meth c nL D cy z0 cells slots Q (pc + 1) (L) (st) g (z_up σ i x.toNatClampNeg v)) : z_V p l e R s m args below meth c nL D cy z0 cells slots Q (pc) (L) (.int v :: .int x :: .ref (g.2.1 i) :: st) g σ := by
  intro H locs ls hP hD hS hL
  obtain ⟨hx, hb', hml, hown, hts, hN, hK, hz, hr, hnm, hlk⟩ := X
  obtain ⟨hi, hk9, hn9⟩ := ha
  obtain ⟨q, q1, q2⟩ := z_get_k (cy := cy) (σ := σ) hi
  rw [z_cel_I hk9 hn9] at q2
  exact va_iast hx hb' hK hP hD hS q 0 q2 rfl hin d (fun H1 locs1 h1 h2 h3 => by rw [z_set_f hD q1 (z_cel_I hk9 hn9)] at h1 h2; exact kk H1 locs1 ls h1 h2 h3 hL)
theorem z_zast (X : z_cx p s m args meth c own cc nL ret nm D cy z0) {i n : Nat} {x v : Int32} (ha : z_ar g i 1 n) (hin : vp_in x n) (hv : v = 0 ∨ v = 1) (d : decode cc pc = .ok (.bastore, 1)) (kk : z_V p l e R s m args below meth c nL D cy z0 cells slots Q (pc + 1) (L) (st) g (z_up σ i x.toNatClampNeg v)) : z_V p l e R s m args below meth c nL D cy z0 cells slots Q (pc) (L) (.int v :: .int x :: .ref (g.2.1 i) :: st) g σ := by
  intro H locs ls hP hD hS hL
  obtain ⟨hx, hb', hml, hown, hts, hN, hK, hz, hr, hnm, hlk⟩ := X
  obtain ⟨hi, hk9, hn9⟩ := ha
  obtain ⟨q, q1, q2⟩ := z_get_k (cy := cy) (σ := σ) hi
  have hnv : vp_nar .boolean v = v := by rcases hv with rfl | rfl <;> rfl
  rw [z_cel_Z hk9 hn9] at q2
  exact va_zast hx hb' hK hP hD hS q 1 q2 rfl hin d (fun H1 locs1 h1 h2 h3 => by rw [hnv] at h1 h2; rw [z_set_f hD q1 (z_cel_Z hk9 hn9)] at h1 h2; exact kk H1 locs1 ls h1 h2 h3 hL)
theorem z_aald (X : z_cx p s m args meth c own cc nL ret nm D cy z0) {i n t : Nat} {x : Int32} {C : String} (ht : 3 ≤ t ∧ t < 7) (htc : z_aty t = .object C) (ha : z_ar g i t n) (hin : vp_in x n) {j : Nat} (hr2 : g.2.2.2.2 i x.toNatClampNeg = j) (hj : j ≠ 0) (d : decode cc pc = .ok (.aaload, 1)) (kk : z_V p l e R s m args below meth c nL D cy z0 cells slots Q (pc + 1) (L) (.ref (g.2.1 j) :: st) g σ) : z_V p l e R s m args below meth c nL D cy z0 cells slots Q (pc) (L) (.int x :: .ref (g.2.1 i) :: st) g σ := by
  intro H locs ls hP hD hS hL
  obtain ⟨hx, hb', hml, hown, hts, hN, hK, hz, hr, hnm, hlk⟩ := X
  obtain ⟨hi, hk9, hn9⟩ := ha
  obtain ⟨q, q1, q2⟩ := z_get_k (cy := cy) (σ := σ) hi
  rw [z_cel_Q ht.1 hk9 hn9] at q2
  have hty := z_tys_at (cy := cy) ht.2
  rw [htc] at hty
  have hv : va_rf (z_ro g (g.2.2.2.2 i x.toNatClampNeg)) = .ref (g.2.1 j) := by simp [z_ro, hr2, hj, va_rf]
  exact va_aldq hx hb' hK hP q t q2 hty hin d (by rw [hv]; exact kk H locs ls hP hD hS hL)
theorem z_aaldN (X : z_cx p s m args meth c own cc nL ret nm D cy z0) {i n t : Nat} {x : Int32} {C : String} (ht : 3 ≤ t ∧ t < 7) (htc : z_aty t = .object C) (ha : z_ar g i t n) (hin : vp_in x n) (hr2 : g.2.2.2.2 i x.toNatClampNeg = 0) (d : decode cc pc = .ok (.aaload, 1)) (kk : z_V p l e R s m args below meth c nL D cy z0 cells slots Q (pc + 1) (L) (.null :: st) g σ) : z_V p l e R s m args below meth c nL D cy z0 cells slots Q (pc) (L) (.int x :: .ref (g.2.1 i) :: st) g σ := by
  intro H locs ls hP hD hS hL
  obtain ⟨hx, hb', hml, hown, hts, hN, hK, hz, hr, hnm, hlk⟩ := X
  obtain ⟨hi, hk9, hn9⟩ := ha
  obtain ⟨q, q1, q2⟩ := z_get_k (cy := cy) (σ := σ) hi
  rw [z_cel_Q ht.1 hk9 hn9] at q2
  have hty := z_tys_at (cy := cy) ht.2
  rw [htc] at hty
  have hv : va_rf (z_ro g (g.2.2.2.2 i x.toNatClampNeg)) = .null := by simp [z_ro, hr2, va_rf]
  exact va_aldq hx hb' hK hP q t q2 hty hin d (by rw [hv]; exact kk H locs ls hP hD hS hL)
theorem z_aast (X : z_cx p s m args meth c own cc nL ret nm D cy z0) {i n t j ci : Nat} {x : Int32} {r : vw_C} (ht : 3 ≤ t ∧ t < 7) (hc : vwCl[ci]? = some r) (hc10 : ci < 10) (htc : z_aty t = .object r.1) (ha : z_ar g i t n) (hin : vp_in x n) (ho : z_ob g j ci) (hj : j ≠ 0) (d : decode cc pc = .ok (.aastore, 1)) (kk : z_V p l e R s m args below meth c nL D cy z0 cells slots Q (pc + 1) (L) (st) (z_gr g i x.toNatClampNeg j) σ) : z_V p l e R s m args below meth c nL D cy z0 cells slots Q (pc) (L) (.ref (g.2.1 j) :: .int x :: .ref (g.2.1 i) :: st) g σ := by
  intro H locs ls hP hD hS hL
  obtain ⟨hx, hb', hml, hown, hts, hN, hK, hz, hr, hnm, hlk⟩ := X
  obtain ⟨hi, hk9, hn9⟩ := ha
  obtain ⟨q, q1, q2⟩ := z_get_k (cy := cy) (σ := σ) hi
  rw [z_cel_Q ht.1 hk9 hn9] at q2
  have hty := z_tys_at (cy := cy) ht.2
  rw [htc] at hty
  obtain ⟨qq, -, q4⟩ := z_get_k (cy := cy) (σ := σ) ho.1
  rw [z_cel_ob ho.2 hc10] at q4
  have hu : va_up (fun k => z_ro g (g.2.2.2.2 i k)) x.toNatClampNeg (some (g.2.1 j)) = fun k => z_ro (z_gr g i x.toNatClampNeg j) ((z_gr g i x.toNatClampNeg j).2.2.2.2 i k) := by
    funext k; simp only [va_up, z_gr, z_upR, z_ro]; split <;> simp_all
  exact va_astq hx hb' hK hP hD hS q t qq ci q2 hty q4 hc hin d (fun H1 locs1 h1 h2 h3 => by rw [hu, z_set_r (k := x.toNatClampNeg) (j := j) hD q1 (z_cel_Q ht.1 (show (z_gr g i x.toNatClampNeg j).2.2.1 i = 10 + t from hk9) (show (z_gr g i x.toNatClampNeg j).2.2.2.1 i = n from hn9))] at h1 h2; exact kk H1 locs1 ls h1 h2 h3 hL)
theorem z_alen (X : z_cx p s m args meth c own cc nL ret nm D cy z0) {i n t : Nat} (ht : t < 7) (ha : z_ar g i t n) (d : decode cc pc = .ok (.arraylength, 1)) (kk : z_V p l e R s m args below meth c nL D cy z0 cells slots Q (pc + 1) (L) (.int (nI n) :: st) g σ) : z_V p l e R s m args below meth c nL D cy z0 cells slots Q (pc) (L) (.ref (g.2.1 i) :: st) g σ := by
  intro H locs ls hP hD hS hL
  obtain ⟨hx, hb', hml, hown, hts, hN, hK, hz, hr, hnm, hlk⟩ := X
  obtain ⟨hi, hk9, hn9⟩ := ha
  obtain ⟨q, q1, q2⟩ := z_get_k (cy := cy) (σ := σ) hi
  have hty := z_tys_at (cy := cy) ht
  have hc : ∃ x : vp_A, x.1 = n ∧ z_cel cy g i (σ i) = .inl (cy t, x) := by
    match t, ht with
    | 0, _ => exact ⟨_, rfl, z_cel_I hk9 hn9⟩
    | 1, _ => exact ⟨_, rfl, z_cel_Z hk9 hn9⟩
    | 2, _ => exact ⟨_, rfl, z_cel_J hk9 hn9⟩
    | t + 3, _ => exact ⟨_, rfl, z_cel_Q (by omega) hk9 hn9⟩
  obtain ⟨x, hx1, hx2⟩ := hc
  rw [hx2] at q2
  exact va_alen hx hb' hK hP q t q2 hty (by rw [hx1]; rfl) d (kk H locs ls hP hD hS hL)
end ZR
