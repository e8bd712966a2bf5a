/-! what there is while the constructors run: closed lists of ids, objects, arrays, references; the constructors of the reference and of the class -/
/-- ids: all there are; ob: objects; ar: arrays; rf: references; nl: those with none; of the ids bs the addresses are ad's; the numbers are ν's -/
def zDs (ids : List Nat) (ob : List (Nat × Nat)) (ar rf : List (Nat × Nat × Nat)) (nl bs : List Nat) (ad : Nat → Nat) (ν : zIn) (g : zSh) (σ : zIn) : Prop :=
  z_wf g ∧ g.1 = ids ∧ (∀ q ∈ ob, z_ob g q.1 q.2) ∧ (∀ q ∈ ar, z_ar g q.1 q.2.1 q.2.2) ∧ (∀ q ∈ rf, z_rf g q.1 q.2.1 q.2.2) ∧ (∀ i ∈ nl, ∀ k, g.2.2.2.2 i k = 0) ∧ (∀ i ∈ bs, i ∈ ids ∧ g.2.1 i = ad i) ∧ ∀ i ∈ ids, ∀ k, σ i k = ν i k
theorem zDs.re {ids : List Nat} {ob : List (Nat × Nat)} {ar rf : List (Nat × Nat × Nat)} {nl bs : List Nat} {ad : Nat → Nat} {ν : zIn} {g : zSh} {σ : zIn} (h : zDs ids ob ar rf nl bs ad ν g σ) (b2 : List Nat) (hb : ∀ i ∈ b2, i ∈ ids) : zDs ids ob ar rf nl b2 g.2.1 ν g σ :=
  ⟨h.1, h.2.1, h.2.2.1, h.2.2.2.1, h.2.2.2.2.1, h.2.2.2.2.2.1, fun i hi => ⟨hb i hi, rfl⟩, h.2.2.2.2.2.2.2⟩
theorem zDs.nin {ids : List Nat} {ob : List (Nat × Nat)} {ar rf : List (Nat × Nat × Nat)} {nl bs : List Nat} {ad : Nat → Nat} {ν : zIn} {g : zSh} {σ : zIn} (h : zDs ids ob ar rf nl bs ad ν g σ) {i : Nat} (hi : i ∉ ids) : i ∉ g.1 := by rw [h.2.1]; exact hi
theorem zDs.mem {ids : List Nat} {ob : List (Nat × Nat)} {ar rf : List (Nat × Nat × Nat)} {nl bs : List Nat} {ad : Nat → Nat} {ν : zIn} {g : zSh} {σ : zIn} (h : zDs ids ob ar rf nl bs ad ν g σ) {i : Nat} (hi : i ∈ ids) : i ∈ g.1 := by rw [h.2.1]; exact hi
theorem zDs.ofb {ids : List Nat} {ob : List (Nat × Nat)} {ar rf : List (Nat × Nat × Nat)} {nl bs : List Nat} {ad : Nat → Nat} {ν : zIn} {g : zSh} {σ : zIn} (h : zDs ids ob ar rf nl bs ad ν g σ) {i c : Nat} (hi : (i, c) ∈ ob) : z_ob g i c := h.2.2.1 _ hi
theorem zDs.oar {ids : List Nat} {ob : List (Nat × Nat)} {ar rf : List (Nat × Nat × Nat)} {nl bs : List Nat} {ad : Nat → Nat} {ν : zIn} {g : zSh} {σ : zIn} (h : zDs ids ob ar rf nl bs ad ν g σ) {i t n : Nat} (hi : (i, t, n) ∈ ar) : z_ar g i t n := h.2.2.2.1 _ hi
theorem zDs.orf {ids : List Nat} {ob : List (Nat × Nat)} {ar rf : List (Nat × Nat × Nat)} {nl bs : List Nat} {ad : Nat → Nat} {ν : zIn} {g : zSh} {σ : zIn} (h : zDs ids ob ar rf nl bs ad ν g σ) {i t n : Nat} (hi : (i, t, n) ∈ rf) : z_rf g i t n := h.2.2.2.2.1 _ hi
theorem zDs.adr {ids : List Nat} {ob : List (Nat × Nat)} {ar rf : List (Nat × Nat × Nat)} {nl bs : List Nat} {ad : Nat → Nat} {ν : zIn} {g : zSh} {σ : zIn} (h : zDs ids ob ar rf nl bs ad ν g σ) {i : Nat} (hi : i ∈ bs) : g.2.1 i = ad i := (h.2.2.2.2.2.2.1 i hi).2
theorem z_ar_ob {g : zSh} {i t n : Nat} (h : z_ar g i t n) : z_ob g i (10 + t) := ⟨h.1, h.2.1⟩
theorem z_ar_at {g : zSh} {i a t n : Nat} : z_ar (z_add g i a (10 + t) n) i t n := ⟨List.mem_append_right _ (List.mem_singleton.mpr rfl), if_pos rfl, if_pos rfl⟩
theorem z_rf_add {g : zSh} {i a kd n j k r : Nat} (h : z_rf g j k r) (hj : j ≠ i) : z_rf (z_add g i a kd n) j k r := by
  refine ⟨?_, h.2⟩
  show (if j = i then 0 else g.2.2.2.2 j k) = r
  rw [if_neg hj]; exact h.1
/-- a new one, object or array -/
theorem zDs.add {ids : List Nat} {ob : List (Nat × Nat)} {ar rf : List (Nat × Nat × Nat)} {nl bs : List Nat} {ad : Nat → Nat} {ν : zIn} {g : zSh} {σ : zIn} (h : zDs ids ob ar rf nl bs ad ν g σ) {i a kd n : Nat} (hi : i ∉ ids) (hr : ∀ q ∈ rf, q.1 ≠ i) (hn : i ∉ nl) (hν : ∀ k, ν i k = 0) : zDs (ids ++ [i]) ob ar rf (i :: nl) bs ad ν (z_add g i a kd n) (z_zero σ i) := by
  obtain ⟨h1, h2, h3, h4, h5, h6, h7, h8⟩ := h
  have hg : i ∉ g.1 := by rw [h2]; exact hi
  refine ⟨z_wf_add h1, by show g.1 ++ [i] = _; rw [h2], fun q hq => z_ob_add (h3 q hq) hg, fun q hq => z_ar_add (h4 q hq) hg, fun q hq => z_rf_add (h5 q hq) (hr q hq), fun j hj k => ?_, fun j hj => ⟨List.mem_append_left _ (h7 j hj).1, ?_⟩, fun j hj k => ?_⟩
  · show (if j = i then 0 else g.2.2.2.2 j k) = 0
    rcases List.mem_cons.mp hj with e | hj
    · rw [if_pos e]
    · rw [if_neg (fun e : j = i => hn (by rw [← e]; exact hj))]; exact h6 j hj k
  · rw [z_add_ne (fun e : j = i => hi (by rw [← e]; exact (h7 j hj).1))]; exact (h7 j hj).2
  · rcases List.mem_append.mp hj with hj | hj
    · rw [z_zero_app, if_neg (fun e : j = i => hi (by rw [← e]; exact hj))]; exact h8 j hj k
    · rw [List.mem_singleton.mp hj, z_zero_app, if_pos rfl]; exact (hν k).symm
theorem zDs.obj {ids : List Nat} {ob : List (Nat × Nat)} {ar rf : List (Nat × Nat × Nat)} {nl bs : List Nat} {ad : Nat → Nat} {ν : zIn} {g : zSh} {σ : zIn} (h : zDs ids ob ar rf nl bs ad ν g σ) {i c : Nat} (hc : z_ob g i c) : zDs ids ((i, c) :: ob) ar rf nl bs ad ν g σ :=
  ⟨h.1, h.2.1, fun q hq => by rcases List.mem_cons.mp hq with rfl | hq; exact hc; exact h.2.2.1 q hq, h.2.2.2⟩
theorem zDs.arr {ids : List Nat} {ob : List (Nat × Nat)} {ar rf : List (Nat × Nat × Nat)} {nl bs : List Nat} {ad : Nat → Nat} {ν : zIn} {g : zSh} {σ : zIn} (h : zDs ids ob ar rf nl bs ad ν g σ) {i t n : Nat} (hc : z_ar g i t n) : zDs ids ob ((i, t, n) :: ar) rf nl bs ad ν g σ :=
  ⟨h.1, h.2.1, h.2.2.1, fun q hq => by rcases List.mem_cons.mp hq with rfl | hq; exact hc; exact h.2.2.2.1 q hq, h.2.2.2.2⟩
theorem zDs.gr {ids : List Nat} {ob : List (Nat × Nat)} {ar rf : List (Nat × Nat × Nat)} {nl bs : List Nat} {ad : Nat → Nat} {ν : zIn} {g : zSh} {σ : zIn} (h : zDs ids ob ar rf nl bs ad ν g σ) {i k j : Nat} (hj : j ∈ ids) (hj0 : j ≠ 0) (hr : ∀ q ∈ rf, ¬ (q.1 = i ∧ q.2.1 = k)) : zDs ids ob ar ((i, k, j) :: rf) (nl.filter (fun q => q != i)) bs ad ν (z_gr g i k j) σ := by
  obtain ⟨h1, h2, h3, h4, h5, h6, h7, h8⟩ := h
  refine ⟨z_wf_gr h1 (by rw [h2]; exact hj), h2, h3, h4, fun q hq => ?_, fun q hq m => ?_, h7, h8⟩
  · rcases List.mem_cons.mp hq with rfl | hq
    · exact ⟨by show z_upR _ _ _ _ i k = j; unfold z_upR; rw [if_pos rfl, if_pos rfl], hj0⟩
    · refine ⟨?_, (h5 q hq).2⟩
      show z_upR _ i k j q.1 q.2.1 = _
      unfold z_upR
      by_cases e : q.1 = i
      · rw [if_pos e, if_neg (fun e2 => hr q hq ⟨e, e2⟩)]; exact (h5 q hq).1
      · rw [if_neg e]; exact (h5 q hq).1
  · obtain ⟨hq, hne⟩ := List.mem_filter.mp hq
    show z_upR _ i k j q m = 0
    unfold z_upR
    rw [if_neg (fun e => by rw [e] at hne; simp at hne)]; exact h6 q hq m
theorem zDs.up {ids : List Nat} {ob : List (Nat × Nat)} {ar rf : List (Nat × Nat × Nat)} {nl bs : List Nat} {ad : Nat → Nat} {ν : zIn} {g : zSh} {σ : zIn} (h : zDs ids ob ar rf nl bs ad ν g σ) (i k : Nat) (v : Int32) : zDs ids ob ar rf nl bs ad (z_up ν i k v) g (z_up σ i k v) := by
  obtain ⟨h1, h2, h3, h4, h5, h6, h7, h8⟩ := h
  refine ⟨h1, h2, h3, h4, h5, h6, h7, fun j hj m => ?_⟩
  rw [z_up_app, z_up_app, h8 j hj m]
theorem zDs.nu {ids : List Nat} {ob : List (Nat × Nat)} {ar rf : List (Nat × Nat × Nat)} {nl bs : List Nat} {ad : Nat → Nat} {ν ν' : zIn} {g : zSh} {σ : zIn} (h : zDs ids ob ar rf nl bs ad ν g σ) (hv : ∀ i ∈ ids, ∀ k, ν i k = ν' i k) : zDs ids ob ar rf nl bs ad ν' g σ :=
  ⟨h.1, h.2.1, h.2.2.1, h.2.2.2.1, h.2.2.2.2.1, h.2.2.2.2.2.1, h.2.2.2.2.2.2.1, fun j hj m => (h.2.2.2.2.2.2.2 j hj m).trans (hv j hj m)⟩
theorem zDs.nls {ids : List Nat} {ob : List (Nat × Nat)} {ar rf : List (Nat × Nat × Nat)} {nl bs : List Nat} {ad : Nat → Nat} {ν : zIn} {g : zSh} {σ : zIn} (h : zDs ids ob ar rf nl bs ad ν g σ) {n2 : List Nat} (hn : ∀ q ∈ n2, q ∈ nl) : zDs ids ob ar rf n2 bs ad ν g σ :=
  ⟨h.1, h.2.1, h.2.2.1, h.2.2.2.1, h.2.2.2.2.1, fun i hi => h.2.2.2.2.2.1 i (hn i hi), h.2.2.2.2.2.2⟩
section
variable {p : Program} {l : Launch} {e : Env} {R : Room} {s : State} {m : MethodId} {args : Array Value} {below : List Frame} {meth : Method} {c : Code} {cells slots : Nat} {Q : State → Prop} {own nm : String} {cc : ByteArray} {nL : Nat} {ret : Option FieldType} {D : va_G} {cy : Nat → ClassId} {z0 : zRg} {pc : Nat} {L : List (Option Value)} {g : zSh} {σ : zIn}
/-- a new array put into a field of i0 -/
theorem z_stI (X : z_cx p s m args meth c own cc nL ret nm D cy z0) {ids0 ia nl bs : List Nat} {ob : List (Nat × Nat)} {ar rf B : List (Nat × Nat × Nat)} {ad : Nat → Nat} {ν : zIn} (i0 ci i k N : Nat) (d : zDs (ids0 ++ ia) ob ar (B ++ rf) nl bs ad ν g σ) {x : Int32} {idx : Nat} {ty : FieldType} (hac : Cond.arrayClass (newarray.typeOf .int) ∈ lw_good) (F : z_fp own idx ci k ty)
    (hb0 : i0 ∈ bs) (ho0 : (i0, ci) ∈ ob) (hi : i ∉ ia ∧ i ≠ 0 ∧ i0 ≠ i) (hB : ∀ q ∈ B, q.1 ≠ i ∧ ¬ (q.1 = i0 ∧ q.2.1 = k)) (hz : i ∉ ids0 ∧ i ∉ nl ∧ (∀ k, ν i k = 0) ∧ ∀ q ∈ rf, q.1 ≠ i) (hr0 : i0 ∉ nl ∧ ∀ q ∈ rf, q.1 ≠ i0) (hx0 : ¬ x < 0) (hxN : x.toNatClampNeg = N) (hbig : N ≤ 60000000) (hce : cells + 1 ≤ R.cells) (hsl : slots + N ≤ R.slots)
    (hnr : ∀ a, narrow ty (.ref a) = .ref a) (hft : ∀ a, fits ty (.ref a) = true) (hb : (z_isr ci)[k]? = some true) (hnm9 : nm = "<init>") (dn : decode cc pc = .ok (.newarray .int, 2)) (dp : decode cc (pc + 2) = .ok (.putfield idx, 3))
    (kk : ∀ (g' : zSh) (σ' : zIn), zDs (ids0 ++ (ia ++ [i])) ob ((i, 0, N) :: ar) ((i0, k, i) :: B ++ rf) nl bs ad ν g' σ' → z_V p l e R s m args below meth c nL D cy z0 (cells + 1) (slots + N) Q (pc + 2 + 3) L [] g' σ') : z_V p l e R s m args below meth c nL D cy z0 cells slots Q pc L [.int x, .ref (ad i0)] g σ := by
  have hni : i ∉ ids0 ++ ia := fun q => (List.mem_append.mp q).elim hz.1 hi.1
  have hrr : ∀ q ∈ B ++ rf, q.1 ≠ i ∧ ¬ (q.1 = i0 ∧ q.2.1 = k) := fun q hq => (List.mem_append.mp hq).elim (fun h => hB q h) (fun h => ⟨hz.2.2.2 q h, fun e => hr0.2 q h e.1⟩)
  rw [← d.adr hb0]
  refine z_newaI X (i := i) hac d.1 (d.nin hni) hi.2.1 hx0 hxN hbig hce hsl dn (fun a => ?_)
  have d1 := (d.add (a := a) (kd := 10 + 0) (n := N) hni (fun q hq => (hrr q hq).1) hz.2.1 hz.2.2.1).arr z_ar_at
  have d2 := (d1.gr (i := i0) (k := k) (j := i) (List.mem_append_right _ (List.mem_singleton.mpr rfl)) hi.2.1 (fun q hq => (hrr q hq).2)).nls (n2 := nl) (fun q hq => List.mem_filter.mpr ⟨List.mem_cons_of_mem _ hq, by simp; exact fun e => hr0.1 (e ▸ hq)⟩)
  rw [List.append_assoc] at d2
  have h := z_putfr (g := z_add g i a (10 + 0) N) (st := []) X F (d1.ofb ho0) hi.2.1 hnr hft hb hnm9 dp (kk _ _ d2)
  rw [z_add_at, z_add_ne hi.2.2] at h
  exact h
end
section
variable {p : Program} {l : Launch} {e : Env} {R : Room} {s : State} {m : MethodId} {args : Array Value} {below : List Frame} {meth : Method} {c : Code} {cells slots : Nat} {Q : State → Prop} {own nm : String} {cc : ByteArray} {nL : Nat} {ret : Option FieldType} {D : va_G} {cy : Nat → ClassId} {z0 : zRg} {pc : Nat} {L : List (Option Value)} {g : zSh} {σ : zIn}
/-- a new array put into a field of i0 -/
theorem z_stZ (X : z_cx p s m args meth c own cc nL ret nm D cy z0) {ids0 ia nl bs : List Nat} {ob : List (Nat × Nat)} {ar rf B : List (Nat × Nat × Nat)} {ad : Nat → Nat} {ν : zIn} (i0 ci i k N : Nat) (d : zDs (ids0 ++ ia) ob ar (B ++ rf) nl bs ad ν g σ) {x : Int32} {idx : Nat} {ty : FieldType} (hac : Cond.arrayClass (newarray.typeOf .boolean) ∈ lw_good) (F : z_fp own idx ci k ty)
    (hb0 : i0 ∈ bs) (ho0 : (i0, ci) ∈ ob) (hi : i ∉ ia ∧ i ≠ 0 ∧ i0 ≠ i) (hB : ∀ q ∈ B, q.1 ≠ i ∧ ¬ (q.1 = i0 ∧ q.2.1 = k)) (hz : i ∉ ids0 ∧ i ∉ nl ∧ (∀ k, ν i k = 0) ∧ ∀ q ∈ rf, q.1 ≠ i) (hr0 : i0 ∉ nl ∧ ∀ q ∈ rf, q.1 ≠ i0) (hx0 : ¬ x < 0) (hxN : x.toNatClampNeg = N) (hbig : N ≤ 60000000) (hce : cells + 1 ≤ R.cells) (hsl : slots + N ≤ R.slots)
    (hnr : ∀ a, narrow ty (.ref a) = .ref a) (hft : ∀ a, fits ty (.ref a) = true) (hb : (z_isr ci)[k]? = some true) (hnm9 : nm = "<init>") (dn : decode cc pc = .ok (.newarray .boolean, 2)) (dp : decode cc (pc + 2) = .ok (.putfield idx, 3))
    (kk : ∀ (g' : zSh) (σ' : zIn), zDs (ids0 ++ (ia ++ [i])) ob ((i, 1, N) :: ar) ((i0, k, i) :: B ++ rf) nl bs ad ν g' σ' → z_V p l e R s m args below meth c nL D cy z0 (cells + 1) (slots + N) Q (pc + 2 + 3) L [] g' σ') : z_V p l e R s m args below meth c nL D cy z0 cells slots Q pc L [.int x, .ref (ad i0)] g σ := by
  have hni : i ∉ ids0 ++ ia := fun q => (List.mem_append.mp q).elim hz.1 hi.1
  have hrr : ∀ q ∈ B ++ rf, q.1 ≠ i ∧ ¬ (q.1 = i0 ∧ q.2.1 = k) := fun q hq => (List.mem_append.mp hq).elim (fun h => hB q h) (fun h => ⟨hz.2.2.2 q h, fun e => hr0.2 q h e.1⟩)
  rw [← d.adr hb0]
  refine z_newaZ X (i := i) hac d.1 (d.nin hni) hi.2.1 hx0 hxN hbig hce hsl dn (fun a => ?_)
  have d1 := (d.add (a := a) (kd := 10 + 1) (n := N) hni (fun q hq => (hrr q hq).1) hz.2.1 hz.2.2.1).arr z_ar_at
  have d2 := (d1.gr (i := i0) (k := k) (j := i) (List.mem_append_right _ (List.mem_singleton.mpr rfl)) hi.2.1 (fun q hq => (hrr q hq).2)).nls (n2 := nl) (fun q hq => List.mem_filter.mpr ⟨List.mem_cons_of_mem _ hq, by simp; exact fun e => hr0.1 (e ▸ hq)⟩)
  rw [List.append_assoc] at d2
  have h := z_putfr (g := z_add g i a (10 + 1) N) (st := []) X F (d1.ofb ho0) hi.2.1 hnr hft hb hnm9 dp (kk _ _ d2)
  rw [z_add_at, z_add_ne hi.2.2] at h
  exact h
end
theorem zDs.aa {ids : List Nat} {ob : List (Nat × Nat)} {ar rf : List (Nat × Nat × Nat)} {nl bs : List Nat} {ad : Nat → Nat} {ν : zIn} {g : zSh} {σ : zIn} (h : zDs ids ob ar rf nl bs ad ν g σ) (i j t n k : Nat) {a kd : Nat} (hkd : kd = 10 + t) (hj : j ∉ ids) (hj0 : j ≠ 0) (hn : j ∉ nl) (hr : ∀ q ∈ rf, q.1 ≠ j ∧ ¬ (q.1 = i ∧ q.2.1 = k)) (hν : ∀ k, ν j k = 0) :
    zDs (ids ++ [j]) ob ((j, t, n) :: ar) ((i, k, j) :: rf) ((j :: nl).filter (fun q => q != i)) bs ad ν (zAa g i j a kd n k) (z_zero σ j) := by
  subst hkd
  exact ((h.add (a := a) (kd := 10 + t) (n := n) hj (fun q hq => (hr q hq).1) hn hν).arr z_ar_at).gr (List.mem_append_right _ (List.mem_singleton.mpr rfl)) hj0 (fun q hq => (hr q hq).2)
def zK_ids : List Nat := [1, 2, 3, 4, 5, 6, 7, 8, 9, 10, 11, 12, 13, 14, 15, 16, 17, 18, 19, 20]
def zK_ob : List (Nat × Nat) := [(1, 8), (2, 0), (7, 6), (11, 2), (13, 4), (18, 7)]
def zK_ar : List (Nat × Nat × Nat) := [(3, 0, 30), (4, 0, 40), (5, 0, 160), (6, 0, 40), (8, 0, 96), (9, 0, 625), (10, 0, 24), (12, 0, 24), (14, 5, 8), (15, 3, 12), (16, 0, 8), (17, 0, 8), (19, 6, 12), (20, 4, 60)]
def zK_rf : List (Nat × Nat × Nat) := [(1, 0, 2), (1, 1, 7), (1, 2, 11), (1, 3, 13), (1, 4, 18), (1, 5, 19), (1, 6, 20), (2, 0, 3), (2, 1, 4), (2, 2, 5), (2, 3, 6), (7, 0, 2), (7, 1, 8), (7, 2, 9), (7, 3, 10), (11, 0, 12), (13, 0, 14), (13, 1, 15), (13, 2, 16), (13, 3, 17)]
def zK_nu : zIn := z_up (z_up (fun _ _ => 0) 18 2 15) 18 3 10
theorem zDs.sub {ids : List Nat} {ob : List (Nat × Nat)} {ar rf : List (Nat × Nat × Nat)} {nl bs : List Nat} {ad : Nat → Nat} {ν : zIn} {g : zSh} {σ : zIn} (h : zDs ids ob ar rf nl bs ad ν g σ) {ob2 : List (Nat × Nat)} {ar2 rf2 : List (Nat × Nat × Nat)} {n2 b2 : List Nat} {ν2 : zIn}
    (h1 : ∀ q ∈ ob2, q ∈ ob) (h2 : ∀ q ∈ ar2, q ∈ ar) (h3 : ∀ q ∈ rf2, q ∈ rf) (h4 : ∀ q ∈ n2, q ∈ nl) (h5 : ∀ q ∈ b2, q ∈ bs) (h6 : ∀ i ∈ ids, ∀ k, ν i k = ν2 i k) : zDs ids ob2 ar2 rf2 n2 b2 ad ν2 g σ :=
  ⟨h.1, h.2.1, fun q hq => h.2.2.1 q (h1 q hq), fun q hq => h.2.2.2.1 q (h2 q hq), fun q hq => h.2.2.2.2.1 q (h3 q hq), fun q hq => h.2.2.2.2.2.1 q (h4 q hq), fun q hq => h.2.2.2.2.2.2.1 q (h5 q hq), fun j hj m => (h.2.2.2.2.2.2.2 j hj m).trans (h6 j hj m)⟩
set_option maxHeartbeats 4000000 in
set_option maxRecDepth 100000 in
theorem tX8_init {l : Launch} {D : va_G} {cy : Nat → ClassId} {z0 : zRg} {g : zSh} {σ : zIn} {a0 : Nat} {ad : Nat → Nat} (d : zDs [1] [(1, 8)] [] [] [1] [1] ad (fun _ _ => 0) g σ) (hA : g.2.1 1 = a0) :
    z_Ct l D cy z0 MX8_init [.ref a0] g σ (fun v g' σ' => v = none ∧ g'.2.1 1 = a0 ∧ ∃ ad, zDs zK_ids zK_ob zK_ar zK_rf [14, 15, 19, 20] [] ad zK_nu g' σ') := by
  refine z_ofM (by decide) (z_cr z_c0) (Nat.le_of_ble_eq_true rfl) ?_
  intro p e s m args below meth c X
  refine z_aload_n X dX8_init_0 rfl ?_
  refine z_objInit X oX8_1 oi_inst oi_code (by decide) (by decide) dX8_init_1 ?_
  refine z_aload_n X dX8_init_4 rfl ?_
  refine z_new X (i := 2) nX8_7 d.1 (d.nin (by decide)) (by decide) (Nat.le_of_ble_eq_true rfl) (Nat.le_of_ble_eq_true rfl) dX8_init_5 (fun a => ?_)
  have d1 := ((d.add (i := 2) (a := a) (kd := 0) (n := 0) (by decide) (by decide) (by decide) (fun _ => rfl)).obj z_ob_at)
  have hA1 : (z_add g 2 a 0 0).2.1 1 = a0 := (z_add_ne (by decide)).trans hA
  have ea : (z_add g 2 a 0 0).2.1 2 = a := z_add_at
  generalize z_add g 2 a 0 0 = g1 at d1 hA1 ea ⊢
  generalize z_zero σ 2 = s1 at d1 ⊢
  subst ea
  replace d1 := d1.re _ (fun _ h => h)
  clear d hA g σ
  refine z_dup X rfl dX8_init_8 ?_
  replace d1 := d1.re _ (fun _ h => h)
  refine z_runI X kX8_9 (tX0_init d1.1 (d1.ofb (by decide)) (d1.nin (by decide)) (d1.nin (by decide)) (d1.nin (by decide)) (d1.nin (by decide))) rfl rfl (Nat.le_of_ble_eq_true rfl) ⟨by decide, by decide⟩ ⟨by decide, by decide⟩ dX8_init_9 ?_
  rintro _ g2 s2 ⟨rfl, b0, b1, b2, b3, hg, hs⟩
  have d2 := (((((((d1.aa 2 3 0 30 0 (a := b0) (kd := 10) rfl (by decide) (by decide) (by decide) (by decide) (fun _ => rfl)).aa 2 4 0 40 1 (a := b1) (kd := 10) rfl (by decide) (by decide) (by decide) (by decide) (fun _ => rfl)).aa 2 5 0 160 2 (a := b2) (kd := 10) rfl (by decide) (by decide) (by decide) (by decide) (fun _ => rfl)).aa 2 6 0 40 3 (a := b3) (kd := 10) rfl (by decide) (by decide) (by decide) (by decide) (fun _ => rfl)).up 2 4 0).up 2 5 0).up 2 6 0)
  rw [← hg, ← hs] at d2
  clear hg hs
  have hA2 := (d2.adr (i := 1) (by decide)).trans hA1
  have hI2 := d2.adr (i := 2) (by decide)
  rw [← hA2, ← hI2]
  refine z_putfr X pX8_10 (d2.ofb (by decide)) (by decide) (fun _ => rfl) (fun _ => rfl) rfl rfl dX8_init_12 ?_
  rw [hA2]
  have d := d2.gr (i := 1) (k := 0) (j := 2) (by decide) (by decide) (by decide)
  have hA : (z_gr g2 1 0 2).2.1 1 = a0 := hA2
  generalize z_gr g2 1 0 2 = g at d hA ⊢
  generalize s2 = σ at d ⊢
  replace d := d.re _ (fun _ h => h)
  clear d1 d2 hA1 hA2 hI2 s1
  try clear g1
  refine z_aload_n X dX8_init_15 rfl ?_
  refine z_new X (i := 7) nX8_16 d.1 (d.nin (by decide)) (by decide) (Nat.le_of_ble_eq_true rfl) (Nat.le_of_ble_eq_true rfl) dX8_init_16 (fun a => ?_)
  have d1 := ((d.add (i := 7) (a := a) (kd := 6) (n := 0) (by decide) (by decide) (by decide) (fun _ => rfl)).obj z_ob_at)
  have hA1 : (z_add g 7 a 6 0).2.1 1 = a0 := (z_add_ne (by decide)).trans hA
  have ea : (z_add g 7 a 6 0).2.1 7 = a := z_add_at
  generalize z_add g 7 a 6 0 = g1 at d1 hA1 ea ⊢
  generalize z_zero σ 7 = s1 at d1 ⊢
  subst ea
  replace d1 := d1.re _ (fun _ h => h)
  clear d hA g σ
  refine z_dup X rfl dX8_init_19 ?_
  refine z_aload_n X dX8_init_20 rfl ?_
  rw [← hA1]
  refine z_getr2 X fX8_10 (d1.ofb (by decide)) (d1.orf (by decide) : z_rf g1 1 0 2) rfl dX8_init_21 ?_
  rw [hA1]
  replace d1 := d1.re _ (fun _ h => h)
  refine z_runI X kX8_18 (tX6_init d1.1 (d1.ofb (by decide)) (d1.mem (by decide)) (d1.nin (by decide)) (d1.nin (by decide)) (d1.nin (by decide))) rfl rfl (Nat.le_of_ble_eq_true rfl) ⟨by decide, by decide⟩ ⟨by decide, by decide⟩ dX8_init_24 ?_
  rintro _ g2 s2 ⟨rfl, b0, b1, b2, hg, hs⟩
  have d2 := (((((((d1.gr (i := 7) (k := 0) (j := 2) (by decide) (by decide) (by decide)).aa 7 8 0 96 1 (a := b0) (kd := 10) rfl (by decide) (by decide) (by decide) (by decide) (fun _ => rfl)).aa 7 9 0 625 2 (a := b1) (kd := 10) rfl (by decide) (by decide) (by decide) (by decide) (fun _ => rfl)).aa 7 10 0 24 3 (a := b2) (kd := 10) rfl (by decide) (by decide) (by decide) (by decide) (fun _ => rfl)).up 7 4 0).up 7 5 0).up 7 6 0)
  rw [← hg, ← hs] at d2
  clear hg hs
  have hA2 := (d2.adr (i := 1) (by decide)).trans hA1
  have hI2 := d2.adr (i := 7) (by decide)
  rw [← hA2, ← hI2]
  refine z_putfr X pX8_21 (d2.ofb (by decide)) (by decide) (fun _ => rfl) (fun _ => rfl) rfl rfl dX8_init_27 ?_
  rw [hA2]
  have d := d2.gr (i := 1) (k := 1) (j := 7) (by decide) (by decide) (by decide)
  have hA : (z_gr g2 1 1 7).2.1 1 = a0 := hA2
  generalize z_gr g2 1 1 7 = g at d hA ⊢
  generalize s2 = σ at d ⊢
  replace d := d.re _ (fun _ h => h)
  clear d1 d2 hA1 hA2 hI2 s1
  try clear g1
  refine z_aload_n X dX8_init_30 rfl ?_
  refine z_new X (i := 11) nX8_25 d.1 (d.nin (by decide)) (by decide) (Nat.le_of_ble_eq_true rfl) (Nat.le_of_ble_eq_true rfl) dX8_init_31 (fun a => ?_)
  have d1 := ((d.add (i := 11) (a := a) (kd := 2) (n := 0) (by decide) (by decide) (by decide) (fun _ => rfl)).obj z_ob_at)
  have hA1 : (z_add g 11 a 2 0).2.1 1 = a0 := (z_add_ne (by decide)).trans hA
  have ea : (z_add g 11 a 2 0).2.1 11 = a := z_add_at
  generalize z_add g 11 a 2 0 = g1 at d1 hA1 ea ⊢
  generalize z_zero σ 11 = s1 at d1 ⊢
  subst ea
  replace d1 := d1.re _ (fun _ h => h)
  clear d hA g σ
  refine z_dup X rfl dX8_init_34 ?_
  replace d1 := d1.re _ (fun _ h => h)
  refine z_runI X kX8_27 (tX2_init d1.1 (d1.ofb (by decide)) (d1.nin (by decide))) rfl rfl (Nat.le_of_ble_eq_true rfl) ⟨by decide, by decide⟩ ⟨by decide, by decide⟩ dX8_init_35 ?_
  rintro _ g2 s2 ⟨rfl, b0, hg, hs⟩
  have d2 := ((d1.aa 11 12 0 24 0 (a := b0) (kd := 10) rfl (by decide) (by decide) (by decide) (by decide) (fun _ => rfl)).up 11 1 0)
  rw [← hg, ← hs] at d2
  clear hg hs
  have hA2 := (d2.adr (i := 1) (by decide)).trans hA1
  have hI2 := d2.adr (i := 11) (by decide)
  rw [← hA2, ← hI2]
  refine z_putfr X pX8_28 (d2.ofb (by decide)) (by decide) (fun _ => rfl) (fun _ => rfl) rfl rfl dX8_init_38 ?_
  rw [hA2]
  have d := d2.gr (i := 1) (k := 2) (j := 11) (by decide) (by decide) (by decide)
  have hA : (z_gr g2 1 2 11).2.1 1 = a0 := hA2
  generalize z_gr g2 1 2 11 = g at d hA ⊢
  generalize s2 = σ at d ⊢
  replace d := d.re _ (fun _ h => h)
  clear d1 d2 hA1 hA2 hI2 s1
  try clear g1
  refine z_aload_n X dX8_init_41 rfl ?_
  refine z_new X (i := 13) nX8_32 d.1 (d.nin (by decide)) (by decide) (Nat.le_of_ble_eq_true rfl) (Nat.le_of_ble_eq_true rfl) dX8_init_42 (fun a => ?_)
  have d1 := ((d.add (i := 13) (a := a) (kd := 4) (n := 0) (by decide) (by decide) (by decide) (fun _ => rfl)).obj z_ob_at)
  have hA1 : (z_add g 13 a 4 0).2.1 1 = a0 := (z_add_ne (by decide)).trans hA
  have ea : (z_add g 13 a 4 0).2.1 13 = a := z_add_at
  generalize z_add g 13 a 4 0 = g1 at d1 hA1 ea ⊢
  generalize z_zero σ 13 = s1 at d1 ⊢
  subst ea
  replace d1 := d1.re _ (fun _ h => h)
  clear d hA g σ
  refine z_dup X rfl dX8_init_45 ?_
  replace d1 := d1.re _ (fun _ h => h)
  refine z_runI X kX8_34 (tX4_init d1.1 (d1.ofb (by decide)) (d1.nin (by decide)) (d1.nin (by decide)) (d1.nin (by decide)) (d1.nin (by decide))) rfl rfl (Nat.le_of_ble_eq_true rfl) ⟨by decide, by decide⟩ ⟨by decide, by decide⟩ dX8_init_46 ?_
  rintro _ g2 s2 ⟨rfl, b0, b1, b2, b3, hg, hs⟩
  have d2 := (((((((d1.aa 13 14 5 8 0 (a := b0) (kd := 15) rfl (by decide) (by decide) (by decide) (by decide) (fun _ => rfl)).aa 13 15 3 12 1 (a := b1) (kd := 13) rfl (by decide) (by decide) (by decide) (by decide) (fun _ => rfl)).aa 13 16 0 8 2 (a := b2) (kd := 10) rfl (by decide) (by decide) (by decide) (by decide) (fun _ => rfl)).aa 13 17 0 8 3 (a := b3) (kd := 10) rfl (by decide) (by decide) (by decide) (by decide) (fun _ => rfl)).up 13 4 0).up 13 5 0).up 13 6 0)
  rw [← hg, ← hs] at d2
  clear hg hs
  have hA2 := (d2.adr (i := 1) (by decide)).trans hA1
  have hI2 := d2.adr (i := 13) (by decide)
  rw [← hA2, ← hI2]
  refine z_putfr X pX8_35 (d2.ofb (by decide)) (by decide) (fun _ => rfl) (fun _ => rfl) rfl rfl dX8_init_49 ?_
  rw [hA2]
  have d := d2.gr (i := 1) (k := 3) (j := 13) (by decide) (by decide) (by decide)
  have hA : (z_gr g2 1 3 13).2.1 1 = a0 := hA2
  generalize z_gr g2 1 3 13 = g at d hA ⊢
  generalize s2 = σ at d ⊢
  replace d := d.re _ (fun _ h => h)
  clear d1 d2 hA1 hA2 hI2 s1
  try clear g1
  refine z_aload_n X dX8_init_52 rfl ?_
  refine z_new X (i := 18) nX8_39 d.1 (d.nin (by decide)) (by decide) (Nat.le_of_ble_eq_true rfl) (Nat.le_of_ble_eq_true rfl) dX8_init_53 (fun a => ?_)
  have d1 := ((d.add (i := 18) (a := a) (kd := 7) (n := 0) (by decide) (by decide) (by decide) (fun _ => rfl)).obj z_ob_at)
  have hA1 : (z_add g 18 a 7 0).2.1 1 = a0 := (z_add_ne (by decide)).trans hA
  have ea : (z_add g 18 a 7 0).2.1 18 = a := z_add_at
  generalize z_add g 18 a 7 0 = g1 at d1 hA1 ea ⊢
  generalize z_zero σ 18 = s1 at d1 ⊢
  subst ea
  replace d1 := d1.re _ (fun _ h => h)
  clear d hA g σ
  refine z_dup X rfl dX8_init_56 ?_
  refine z_iconst (v := 0) X (by decide) dX8_init_57 ?_
  refine z_iconst (v := 0) X (by decide) dX8_init_58 ?_
  refine z_bipush (v := 15) X (by decide) dX8_init_59 ?_
  refine z_bipush (v := 10) X (by decide) dX8_init_61 ?_
  refine z_iconst (v := 0) X (by decide) dX8_init_63 ?_
  replace d1 := d1.re _ (fun _ h => h)
  refine z_runI X kX8_41 (tX7_init 0 0 15 10 0 (d1.ofb (by decide))) rfl rfl (Nat.le_of_ble_eq_true rfl) ⟨by decide, by decide⟩ ⟨by decide, by decide⟩ dX8_init_64 ?_
  rintro _ g2 s2 ⟨rfl, hg, hs⟩
  have d2 := ((((d1.up 18 0 0).up 18 1 0).up 18 2 15).up 18 3 10).up 18 4 0
  rw [← hs] at d2
  clear hs
  subst hg
  have hA2 := (d2.adr (i := 1) (by decide)).trans hA1
  have hI2 := d2.adr (i := 18) (by decide)
  rw [← hA2, ← hI2]
  refine z_putfr X pX8_44 (d2.ofb (by decide)) (by decide) (fun _ => rfl) (fun _ => rfl) rfl rfl dX8_init_67 ?_
  rw [hA2]
  have d := d2.gr (i := 1) (k := 4) (j := 18) (by decide) (by decide) (by decide)
  have hA : (z_gr g2 1 4 18).2.1 1 = a0 := hA2
  generalize z_gr g2 1 4 18 = g at d hA ⊢
  generalize s2 = σ at d ⊢
  replace d := d.re _ (fun _ h => h)
  clear d1 d2 hA1 hA2 hI2 s1
  try clear g1
  refine z_aload_n X dX8_init_70 rfl ?_
  refine z_bipush (v := 12) X (by decide) dX8_init_71 ?_
  refine z_newq X (i := 19) (N := 12) (t := 6) (by decide) rfl aX8_39 ao_Rules d.1 (d.nin (by decide)) (by decide) (by decide) (by decide) (by omega) (Nat.le_of_ble_eq_true rfl) (Nat.le_of_ble_eq_true rfl) dX8_init_73 (fun a => ?_)
  have d2 := ((d.add (i := 19) (a := a) (kd := 10 + 6) (n := 12) (by decide) (by decide) (by decide) (fun _ => rfl)).arr z_ar_at)
  have hA2 : (z_add g 19 a (10 + 6) 12).2.1 1 = a0 := (z_add_ne (by decide)).trans hA
  have hI2 : (z_add g 19 a (10 + 6) 12).2.1 19 = a := z_add_at
  generalize z_add g 19 a (10 + 6) 12 = g2 at d2 hA2 hI2 ⊢
  generalize z_zero σ 19 = s2 at d2 ⊢
  subst hI2
  replace d2 := d2.re _ (fun _ h => h)
  clear d hA g σ
  rw [← hA2]
  refine z_putfr X pX8_48 (d2.ofb (by decide)) (by decide) (fun _ => rfl) (fun _ => rfl) rfl rfl dX8_init_76 ?_
  rw [hA2]
  have d := d2.gr (i := 1) (k := 5) (j := 19) (by decide) (by decide) (by decide)
  have hA : (z_gr g2 1 5 19).2.1 1 = a0 := hA2
  generalize z_gr g2 1 5 19 = g at d hA ⊢
  generalize s2 = σ at d ⊢
  replace d := d.re _ (fun _ h => h)
  clear d2 hA2 g2
  refine z_aload_n X dX8_init_79 rfl ?_
  refine z_bipush (v := 60) X (by decide) dX8_init_80 ?_
  refine z_newq X (i := 20) (N := 60) (t := 4) (by decide) rfl aX8_52 ao_Message d.1 (d.nin (by decide)) (by decide) (by decide) (by decide) (by omega) (Nat.le_of_ble_eq_true rfl) (Nat.le_of_ble_eq_true rfl) dX8_init_82 (fun a => ?_)
  have d2 := ((d.add (i := 20) (a := a) (kd := 10 + 4) (n := 60) (by decide) (by decide) (by decide) (fun _ => rfl)).arr z_ar_at)
  have hA2 : (z_add g 20 a (10 + 4) 60).2.1 1 = a0 := (z_add_ne (by decide)).trans hA
  have hI2 : (z_add g 20 a (10 + 4) 60).2.1 20 = a := z_add_at
  generalize z_add g 20 a (10 + 4) 60 = g2 at d2 hA2 hI2 ⊢
  generalize z_zero σ 20 = s2 at d2 ⊢
  subst hI2
  replace d2 := d2.re _ (fun _ h => h)
  clear d hA g σ
  rw [← hA2]
  refine z_putfr X pX8_54 (d2.ofb (by decide)) (by decide) (fun _ => rfl) (fun _ => rfl) rfl rfl dX8_init_85 ?_
  rw [hA2]
  have d := d2.gr (i := 1) (k := 6) (j := 20) (by decide) (by decide) (by decide)
  have hA : (z_gr g2 1 6 20).2.1 1 = a0 := hA2
  generalize z_gr g2 1 6 20 = g at d hA ⊢
  generalize s2 = σ at d ⊢
  replace d := d.re _ (fun _ h => h)
  clear d2 hA2 g2
  refine z_aload_n X dX8_init_88 rfl ?_
  refine z_iconst (v := 0) X (by decide) dX8_init_89 ?_
  rw [← hA]
  refine z_puti X fX8_58 (d.ofb (by decide)) rfl dX8_init_90 ?_
  rw [hA]
  replace d := d.up 1 7 0
  refine z_aload_n X dX8_init_93 rfl ?_
  refine z_iconst (v := 0) X (by decide) dX8_init_94 ?_
  rw [← hA]
  refine z_puti X fX8_62 (d.ofb (by decide)) rfl dX8_init_95 ?_
  rw [hA]
  replace d := d.up 1 8 0
  refine z_aload_n X dX8_init_98 rfl ?_
  refine z_iconst (v := 0) X (by decide) dX8_init_99 ?_
  rw [← hA]
  refine z_puti X fX8_65 (d.ofb (by decide)) rfl dX8_init_100 ?_
  rw [hA]
  replace d := d.up 1 9 0
  refine z_vret X (by decide) (by decide) rfl dX8_init_103 ?_
  refine ⟨rfl, hA, _, d.sub (by decide) (by decide) (by decide) (by decide) (fun q hq => absurd hq List.not_mem_nil) (fun i hi k => ?_)⟩
  by_cases hi18 : i = 18
  · subst hi18
    by_cases k2 : k = 2
    · subst k2; rfl
    by_cases k3 : k = 3
    · subst k3; rfl
    simp [zK_nu, z_up_app, k2, k3]
  · simp [zK_nu, z_up_app, hi18]