/-! contracts of the law's methods (z_Cn): what a method that throws here never is; the frame: a part of the world alone -/
abbrev zc0 (M : zM) : Cond := .code M.1 M.2.1 M.2.2.1 M.2.2.2.1
def z_Cn (w0 : Cond) (l : Launch) (D : va_G) (cy : Nat → ClassId) (z0 : zRg) (M : zM) (av : List Value) (g : zSh) (σ : zIn) (Post : Option Value → zSh → zIn → Prop) : Prop :=
  Met l M.1 (w0 :: lw_good) { frames := M.2.2.2.2.1, cells := M.2.2.2.2.2.1, slots := M.2.2.2.2.2.2.1, locals := M.2.2.2.2.2.2.2 } (z_Py D cy z0 av g σ) (z_Qc D cy z0 Post) M.2.2.2.2.2.1 M.2.2.2.2.2.2.1 (z_A z0)
theorem z_Cn.mono {w0 : Cond} {l : Launch} {D : va_G} {cy : Nat → ClassId} {z0 : zRg} {M : zM} {av : List Value} {g : zSh} {σ : zIn} {P P2 : Option Value → zSh → zIn → Prop} (h : z_Cn w0 l D cy z0 M av g σ P) (hP : ∀ v g' σ', P v g' σ' → P2 v g' σ') : z_Cn w0 l D cy z0 M av g σ P2 := by
  unfold z_Cn Met at h ⊢
  refine MetFree.mono h (fun _ _ q => q) (fun _ _ _ _ _ q => q) (fun a s o s' _ q => ?_)
  obtain ⟨⟨⟨v, g', σ', q1, q2, q3⟩, q4⟩, q5⟩ := q
  exact ⟨⟨⟨v, g', σ', q1, hP _ _ _ q2, q3⟩, q4⟩, q5⟩
theorem z_Cx.sure {l : Launch} {D : va_G} {cy : Nat → ClassId} {z0 : zRg} {M : zM} {av : List Value} {g : zSh} {σ : zIn} {Post : Option Value → zSh → zIn → Prop} {PX : String → zSh → zIn → Prop} (h : z_Cx l D cy z0 M av g σ Post PX) (hn : ∀ E g' σ', PX E g' σ' → False) : z_Cn (zc0 M) l D cy z0 M av g σ Post := by
  unfold z_Cx vx_Met at h
  unfold z_Cn Met
  refine MetFree.mono h (fun _ _ q => ⟨q.1, q.2.1, q.2.2.1⟩) (fun _ _ _ _ _ q => q) (fun a s o s' _ q => ?_)
  rcases q with q | ⟨q, -, E, ce, L, ⟨⟨g', σ', hp, -⟩, -⟩, -⟩
  · exact q
  · exact (hn E g' σ' hp).elim
theorem z_Ct.toN {l : Launch} {D : va_G} {cy : Nat → ClassId} {z0 : zRg} {M : zM} {av : List Value} {g : zSh} {σ : zIn} {Post : Option Value → zSh → zIn → Prop} (h : z_Ct l D cy z0 M av g σ Post) : z_Cn (zc0 M) l D cy z0 M av g σ Post := by
  unfold z_Ct Met at h
  unfold z_Cn Met
  exact MetFree.mono h (fun _ _ q => ⟨q.1, q.2.1⟩) (fun _ _ _ _ _ q => q) (fun a s o s' _ q => q)
/-! the world's parts -/
theorem va_D_iff {A : Nat → Prop} {ws : va_W} : va_D A ws ↔ (ws.map Prod.fst).Nodup ∧ ∀ q ∈ ws, A q.1 := by
  have key : (ws.map Prod.fst).Nodup ↔ ∀ (i j : Nat) (hi : i < (ws.map Prod.fst).length) (hj : j < (ws.map Prod.fst).length), i < j → (ws.map Prod.fst)[i] ≠ (ws.map Prod.fst)[j] := List.pairwise_iff_getElem
  rw [key]
  constructor
  · intro h
    refine ⟨fun i j hi hj hij e => ?_, fun q hq => ?_⟩
    · rw [List.length_map] at hi hj
      rw [List.getElem_map, List.getElem_map] at e
      have := h.1 i j _ _ (List.getElem?_eq_getElem hi) (List.getElem?_eq_getElem hj) e
      omega
    · obtain ⟨k, hk⟩ := List.getElem?_of_mem hq
      exact h.2 k q hk
  · rintro ⟨h1, h2⟩
    have gen : ∀ (i j : Nat) (p q : Nat × va_E), ws[i]? = some p → ws[j]? = some q → p.1 = q.1 → ¬ i < j := by
      intro i j p q hi hj e hij
      obtain ⟨li, ei⟩ := List.getElem?_eq_some_iff.mp hi
      obtain ⟨lj, ej⟩ := List.getElem?_eq_some_iff.mp hj
      refine h1 i j (by rw [List.length_map]; exact li) (by rw [List.length_map]; exact lj) hij ?_
      rw [List.getElem_map, List.getElem_map, ei, ej]; exact e
    refine ⟨fun i j p q hi hj e => ?_, fun k q hq => h2 q (List.mem_of_getElem? hq)⟩
    have g1 := gen i j p q hi hj e
    have g2 := gen j i q p hj hi e.symm
    omega
theorem va_P_iff {D : va_G} {cl : List vw_C} {ws : va_W} {H : Heap} : va_P D cl ws H ↔ ∀ q ∈ ws, va_at D cl q H := by
  constructor
  · intro h q hq
    obtain ⟨k, hk⟩ := List.getElem?_of_mem hq
    exact h k q hk
  · intro h k q hq
    exact h q (List.mem_of_getElem? hq)
theorem va_P_app {D : va_G} {cl : List vw_C} {a b : va_W} {H : Heap} : va_P D cl (a ++ b) H ↔ va_P D cl a H ∧ va_P D cl b H := by
  rw [va_P_iff, va_P_iff, va_P_iff]
  constructor
  · intro h
    exact ⟨fun q hq => h q (List.mem_append_left _ hq), fun q hq => h q (List.mem_append_right _ hq)⟩
  · rintro ⟨h1, h2⟩ q hq
    rcases List.mem_append.mp hq with h | h
    · exact h1 q h
    · exact h2 q h
theorem va_D_app {A : Nat → Prop} {a b : va_W} : va_D A (a ++ b) ↔ va_D A a ∧ va_D A b ∧ ∀ p ∈ a, ∀ q ∈ b, p.1 ≠ q.1 := by
  rw [va_D_iff, va_D_iff, va_D_iff, List.map_append, List.nodup_append]
  constructor
  · rintro ⟨⟨h1, h2, h3⟩, h4⟩
    exact ⟨⟨h1, fun q hq => h4 q (List.mem_append_left _ hq)⟩, ⟨h2, fun q hq => h4 q (List.mem_append_right _ hq)⟩, fun p hp q hq => h3 _ (List.mem_map.mpr ⟨p, hp, rfl⟩) _ (List.mem_map.mpr ⟨q, hq, rfl⟩)⟩
  · rintro ⟨⟨h1, h2⟩, ⟨h3, h4⟩, h5⟩
    refine ⟨⟨h1, h3, fun x hx y hy => ?_⟩, fun q hq => ?_⟩
    · obtain ⟨p, hp, rfl⟩ := List.mem_map.mp hx
      obtain ⟨q, hq, rfl⟩ := List.mem_map.mp hy
      exact h5 p hp q hq
    · rcases List.mem_append.mp hq with h | h
      · exact h2 q h
      · exact h4 q h
theorem va_P_swap {D : va_G} {cl : List vw_C} {a b : va_W} {H : Heap} (h : va_P D cl (a ++ b) H) : va_P D cl (b ++ a) H := va_P_app.mpr ⟨(va_P_app.mp h).2, (va_P_app.mp h).1⟩
theorem va_D_swap {A : Nat → Prop} {a b : va_W} (h : va_D A (a ++ b)) : va_D A (b ++ a) := by
  obtain ⟨h1, h2, h3⟩ := va_D_app.mp h
  exact va_D_app.mpr ⟨h2, h1, fun p hp q hq e => h3 q hq p hp e.symm⟩
/-- a contract over one part of the world is one over all of it -/
theorem z_Cn_part {w0 : Cond} {l : Launch} {D : va_G} {cy : Nat → ClassId} {z0 : zRg} {M : zM} {av : List Value} {g G : zSh} {σ S9 : zIn} {rest : va_W} {Post : Option Value → zSh → zIn → Prop} {P2 : Option Value → zSh → zIn → Prop}
    (h : ∀ z1 : zRg, z_Cn w0 l D cy z1 M av g σ Post) (hin : ∀ (H : Heap), va_P D vwCl (z_w cy G S9) H → va_P D vwCl (z_w cy g σ ++ rest) H) (hinD : va_D (z_A z0) (z_w cy G S9) → va_D (z_A z0) (z_w cy g σ ++ rest))
    (hout : ∀ v g' σ', Post v g' σ' → ∃ G' S', P2 v G' S' ∧ (∀ (H : Heap), va_P D vwCl (z_w cy g' σ' ++ rest) H → va_P D vwCl (z_w cy G' S') H) ∧ (va_D (z_A z0) (z_w cy g' σ' ++ rest) → va_D (z_A z0) (z_w cy G' S'))) :
    z_Cn w0 l D cy z0 M av G S9 P2 := by
  intro p e h1 h2 h3 s m args below hf hS hP hK
  obtain ⟨rfl, ⟨hz, hPw, hDw, hKt, hN⟩, ⟨t1, t2, t3, t4⟩, t5⟩ := hP
  have hP1 := hin _ hPw
  have hD1 := hinD hDw
  obtain ⟨hPa, hPb⟩ := va_P_app.mp hP1
  obtain ⟨hDa, hDb, hDc⟩ := va_D_app.mp hD1
  let z1 : zRg := fun q => (∃ x ∈ z_w cy g σ, x.1 = q) ∨ s.heap.size ≤ q
  have hsub : ∀ q, z1 q → z0 q := by
    rintro q (⟨x, hx, rfl⟩ | hq)
    · exact (va_D_iff.mp hDa).2 x hx
    · exact hz q hq
  have hDa1 : va_D (z_A z1) (z_w cy g σ) := va_D_iff.mpr ⟨(va_D_iff.mp hDa).1, fun q hq => Or.inl ⟨q, hq, rfl⟩⟩
  obtain ⟨n, o, a1, a2, a3, ⟨⟨v, g', σ', hv, hp, hP', hD'⟩, hF⟩, L, b1, b2⟩ := h z1 p e h1 h2 h3 s m _ below hf hS ⟨rfl, ⟨fun q hq => Or.inr hq, hPa, hDa1, hKt, hN⟩, ⟨vx_Zq.narrow t1 hsub, vx_Zq.narrow t2 hsub, t3, t4⟩, t5⟩ trivial
  obtain ⟨G', S', hp2, ho1, ho2⟩ := hout v g' σ' hp
  have hlt : ∀ x ∈ rest, x.1 < s.heap.size := by
    intro x hx
    obtain ⟨k, hk⟩ := List.getElem?_of_mem hx
    exact vx_lt hPb hk
  have hno : ∀ x ∈ rest, ¬ z1 x.1 := by
    rintro x hx (⟨y, hy, e⟩ | hq)
    · exact hDc y hy x hx e
    · have := hlt x hx; omega
  refine ⟨n, o, a1, a2, a3, ⟨⟨v, G', S', hv, hp2, ho1 _ (va_P_app.mpr ⟨hP', hPb.kept (fun k q hq => hF.2 _ (hlt q (List.mem_of_getElem? hq)) (hno q (List.mem_of_getElem? hq)))⟩), ho2 (va_D_app.mpr ⟨va_D_iff.mpr ⟨(va_D_iff.mp hD').1, fun q hq => hsub _ ((va_D_iff.mp hD').2 q hq)⟩, hDb, fun x hx y hy e => hno y hy (e ▸ (va_D_iff.mp hD').2 x hx)⟩)⟩, hF.1, fun q h1 h2 => hF.2 q h1 (fun hh => h2 (hsub q hh))⟩, L, b1, fun q hq => hsub _ (b2 q hq)⟩
/-! three parts: ids 3 i, 3 i + 1, 3 i + 2 -/
def zJg (w : Nat → zSh) : zSh :=
  ((w 0).1.map (fun i => 3 * i) ++ ((w 1).1.map (fun i => 3 * i + 1) ++ (w 2).1.map (fun i => 3 * i + 2)), fun n => (w (n % 3)).2.1 (n / 3), fun n => (w (n % 3)).2.2.1 (n / 3), fun n => (w (n % 3)).2.2.2.1 (n / 3), fun n k => if (w (n % 3)).2.2.2.2 (n / 3) k = 0 then 0 else 3 * (w (n % 3)).2.2.2.2 (n / 3) k + n % 3)
def zJs (τ : Nat → zIn) : zIn := fun n => τ (n % 3) (n / 3)
def zp1 {α : Type} (f : Nat → α) (c : Nat) (x : α) : Nat → α := fun n => if n = c then x else f n
theorem zp1_at {α : Type} {f : Nat → α} {c : Nat} {x : α} : zp1 f c x c = x := if_pos rfl
theorem zp1_ne {α : Type} {f : Nat → α} {c n : Nat} {x : α} (h : n ≠ c) : zp1 f c x n = f n := if_neg h
theorem z3m (i c : Nat) (h : c < 3) : (3 * i + c) % 3 = c := by omega
theorem z3d (i c : Nat) (h : c < 3) : (3 * i + c) / 3 = i := by omega
theorem zJ_ad {w : Nat → zSh} {i c : Nat} (h : c < 3) : (zJg w).2.1 (3 * i + c) = (w c).2.1 i := by
  show (w ((3 * i + c) % 3)).2.1 ((3 * i + c) / 3) = _
  rw [z3m i c h, z3d i c h]
theorem zJ_kd {w : Nat → zSh} {i c : Nat} (h : c < 3) : (zJg w).2.2.1 (3 * i + c) = (w c).2.2.1 i := by
  show (w ((3 * i + c) % 3)).2.2.1 ((3 * i + c) / 3) = _
  rw [z3m i c h, z3d i c h]
theorem zJ_ln {w : Nat → zSh} {i c : Nat} (h : c < 3) : (zJg w).2.2.2.1 (3 * i + c) = (w c).2.2.2.1 i := by
  show (w ((3 * i + c) % 3)).2.2.2.1 ((3 * i + c) / 3) = _
  rw [z3m i c h, z3d i c h]
theorem zJ_rf {w : Nat → zSh} {i c k : Nat} (h : c < 3) : (zJg w).2.2.2.2 (3 * i + c) k = if (w c).2.2.2.2 i k = 0 then 0 else 3 * (w c).2.2.2.2 i k + c := by
  show (if (w ((3 * i + c) % 3)).2.2.2.2 ((3 * i + c) / 3) k = 0 then 0 else 3 * (w ((3 * i + c) % 3)).2.2.2.2 ((3 * i + c) / 3) k + (3 * i + c) % 3) = _
  rw [z3m i c h, z3d i c h]
theorem zJ_s {τ : Nat → zIn} {i c : Nat} (h : c < 3) : zJs τ (3 * i + c) = τ c i := by
  show τ ((3 * i + c) % 3) ((3 * i + c) / 3) = _
  rw [z3m i c h, z3d i c h]
theorem zJ_ro {w : Nat → zSh} {j c : Nat} (h : c < 3) : z_ro (zJg w) (if j = 0 then 0 else 3 * j + c) = z_ro (w c) j := by
  unfold z_ro
  by_cases e : j = 0
  · rw [if_pos e, if_pos e, if_pos rfl]
  · rw [if_neg e, if_neg e, if_neg (show ¬ 3 * j + c = 0 by omega), zJ_ad h]
theorem zJ_cel {cy : Nat → ClassId} {w : Nat → zSh} {i c : Nat} {f : Nat → Int32} (h : c < 3) : z_cel cy (zJg w) (3 * i + c) f = z_cel cy (w c) i f := by
  have e : ∀ k, z_ro (zJg w) ((zJg w).2.2.2.2 (3 * i + c) k) = z_ro (w c) ((w c).2.2.2.2 i k) := fun k => by rw [zJ_rf h, zJ_ro h]
  unfold z_cel z_rv
  simp only [zJ_kd h, zJ_ln h, e]
theorem zJ_w {cy : Nat → ClassId} {w : Nat → zSh} {τ : Nat → zIn} : z_w cy (zJg w) (zJs τ) = z_w cy (w 0) (τ 0) ++ (z_w cy (w 1) (τ 1) ++ z_w cy (w 2) (τ 2)) := by
  show ((w 0).1.map (fun i => 3 * i) ++ ((w 1).1.map (fun i => 3 * i + 1) ++ (w 2).1.map (fun i => 3 * i + 2))).map (fun i => ((zJg w).2.1 i, z_cel cy (zJg w) i (zJs τ i))) = _
  rw [List.map_append, List.map_append, List.map_map, List.map_map, List.map_map]
  have key : ∀ c, c < 3 → ∀ i, ((fun i => ((zJg w).2.1 i, z_cel cy (zJg w) i (zJs τ i))) ∘ fun i => 3 * i + c) i = ((w c).2.1 i, z_cel cy (w c) i (τ c i)) := by
    intro c hc i
    show ((zJg w).2.1 (3 * i + c), z_cel cy (zJg w) (3 * i + c) (zJs τ (3 * i + c))) = _
    rw [zJ_ad hc, zJ_s hc, zJ_cel hc]
  unfold z_w
  congr 1
  · exact List.map_congr_left (fun i _ => key 0 (by decide) i)
  · congr 1
    · exact List.map_congr_left (fun i _ => key 1 (by decide) i)
    · exact List.map_congr_left (fun i _ => key 2 (by decide) i)
/-- the other two parts -/
def zJo (cy : Nat → ClassId) (w : Nat → zSh) (τ : Nat → zIn) (c : Nat) : va_W :=
  if c = 0 then z_w cy (w 1) (τ 1) ++ z_w cy (w 2) (τ 2) else if c = 1 then z_w cy (w 0) (τ 0) ++ z_w cy (w 2) (τ 2) else z_w cy (w 0) (τ 0) ++ z_w cy (w 1) (τ 1)
theorem zJo_p1 {cy : Nat → ClassId} {w : Nat → zSh} {τ : Nat → zIn} {c : Nat} (hc : c < 3) {g : zSh} {σ : zIn} : zJo cy (zp1 w c g) (zp1 τ c σ) c = zJo cy w τ c := by
  have : c = 0 ∨ c = 1 ∨ c = 2 := by omega
  rcases this with rfl | rfl | rfl <;> rfl
theorem zJ_perm {cy : Nat → ClassId} {w : Nat → zSh} {τ : Nat → zIn} {c : Nat} (hc : c < 3) : (z_w cy (zJg w) (zJs τ)).Perm (z_w cy (w c) (τ c) ++ zJo cy w τ c) := by
  have : c = 0 ∨ c = 1 ∨ c = 2 := by omega
  rcases this with rfl | rfl | rfl
  · rw [zJ_w]; exact List.Perm.refl _
  · rw [zJ_w]
    show (z_w cy (w 0) (τ 0) ++ (z_w cy (w 1) (τ 1) ++ z_w cy (w 2) (τ 2))).Perm (z_w cy (w 1) (τ 1) ++ (z_w cy (w 0) (τ 0) ++ z_w cy (w 2) (τ 2)))
    rw [← List.append_assoc, ← List.append_assoc]
    exact List.Perm.append_right _ List.perm_append_comm
  · rw [zJ_w]
    show (z_w cy (w 0) (τ 0) ++ (z_w cy (w 1) (τ 1) ++ z_w cy (w 2) (τ 2))).Perm (z_w cy (w 2) (τ 2) ++ (z_w cy (w 0) (τ 0) ++ z_w cy (w 1) (τ 1)))
    rw [← List.append_assoc]
    exact List.perm_append_comm
theorem va_P_perm {D : va_G} {cl : List vw_C} {a b : va_W} {H : Heap} (h : a.Perm b) (hP : va_P D cl a H) : va_P D cl b H := va_P_iff.mpr (fun q hq => va_P_iff.mp hP q (h.mem_iff.mpr hq))
theorem va_D_perm {A : Nat → Prop} {a b : va_W} (h : a.Perm b) (hD : va_D A a) : va_D A b := va_D_iff.mpr ⟨((h.map Prod.fst).nodup_iff).mp (va_D_iff.mp hD).1, fun q hq => (va_D_iff.mp hD).2 q (h.mem_iff.mpr hq)⟩
theorem z_Cn_fr {w0 : Cond} {l : Launch} {D : va_G} {cy : Nat → ClassId} {z0 : zRg} {M : zM} {av : List Value} {w : Nat → zSh} {τ : Nat → zIn} {Post : Option Value → zSh → zIn → Prop} (c : Nat) (hc : c < 3) (h : ∀ z1 : zRg, z_Cn w0 l D cy z1 M av (w c) (τ c) Post) :
    z_Cn w0 l D cy z0 M av (zJg w) (zJs τ) (fun v G S => ∃ g' σ', Post v g' σ' ∧ G = zJg (zp1 w c g') ∧ S = zJs (zp1 τ c σ')) := by
  refine z_Cn_part (rest := zJo cy w τ c) h (fun H hP => va_P_perm (zJ_perm hc) hP) (fun hD => va_D_perm (zJ_perm hc) hD) (fun v g' σ' hp => ⟨_, _, ⟨g', σ', hp, rfl, rfl⟩, fun H hP => ?_, fun hD => ?_⟩)
  · refine va_P_perm (zJ_perm (w := zp1 w c g') (τ := zp1 τ c σ') hc).symm ?_
    rw [zJo_p1 hc, zp1_at, zp1_at]; exact hP
  · refine va_D_perm (zJ_perm (w := zp1 w c g') (τ := zp1 τ c σ') hc).symm ?_
    rw [zJo_p1 hc, zp1_at, zp1_at]; exact hD
