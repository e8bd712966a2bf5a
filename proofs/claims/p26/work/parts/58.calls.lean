/-! each call of the class, told by the state: what it answers, and the state behind it -/
abbrev zIO : String := "java/lang/IndexOutOfBoundsException"
abbrev zIX : String := "java/lang/IllegalArgumentException"
abbrev zIY : String := "java/lang/IllegalStateException"
def zcd9 (E : String) : Int32 := if E = zIO then -2000000001 else if E = zIX then -2000000002 else -2000000003
abbrev zRl9 : Type := Int32 → zIn → (Nat → Nat) → Prop
def zRs (a : Nat) (R : zRl9) : Option Value → zSh → zIn → Prop := fun v g' σ' => ∃ r κ' n', v = some (.int r) ∧ R r κ' n' ∧ zSt g' σ' κ' n' ∧ g'.2.1 1 = a
def zRx (a : Nat) (R : zRl9) (κ : zIn) (n : Nat → Nat) : String → zSh → zIn → Prop := fun E g' σ' => (E = zIO ∨ E = zIX ∨ E = zIY) ∧ R (zcd9 E) κ n ∧ zSt g' σ' κ n ∧ g'.2.1 1 = a
def zno9 (nms : List String) (k : Nat) (κ : zIn) (n : Nat → Nat) : zRl9 := fun r κ' n' => κ' = κ ∧ n' = n ∧ ∃ E, zXk nms k E ∧ r = zcd9 E
def zRk (nms : List String) (k : Nat) (κ : zIn) (n : Nat → Nat) (ok : zRl9) : zRl9 := fun r κ' n' => (k = 0 ∧ ok r κ' n') ∨ zno9 nms k κ n r κ' n'
def zDet (R : zRl9) : Prop := ∀ r κ1 n1 r2 κ2 n2, R r κ1 n1 → R r2 κ2 n2 → r = r2 ∧ κ1 = κ2 ∧ n1 = n2
theorem zXk_u {nms : List String} {k : Nat} {E E2 : String} (h1 : zXk nms k E) (h2 : zXk nms k E2) : E = E2 := by
  obtain ⟨j, e1, e2⟩ := h1
  obtain ⟨j2, f1, f2⟩ := h2
  have : j = j2 := by omega
  subst this
  rw [e2] at f2
  exact Option.some.inj f2
theorem zRk_det {nms : List String} {k : Nat} {κ : zIn} {n : Nat → Nat} {ok : zRl9} (h : k = 0 → zDet ok) : zDet (zRk nms k κ n ok) := by
  intro r κ1 n1 r2 κ2 n2 h1 h2
  rcases h1 with ⟨h0, h1⟩ | ⟨rfl, rfl, E, h1, rfl⟩
  · rcases h2 with ⟨_, h2⟩ | ⟨_, _, E, ⟨j, h2, _⟩, _⟩
    · exact h h0 _ _ _ _ _ _ h1 h2
    · omega
  · rcases h2 with ⟨h0, h2⟩ | ⟨rfl, rfl, E2, h2, rfl⟩
    · obtain ⟨j, h1, _⟩ := h1
      omega
    · rw [zXk_u h1 h2]; exact ⟨rfl, rfl, rfl⟩
theorem zRk_0 {nms : List String} {κ : zIn} {n : Nat → Nat} {ok : zRl9} {k : Nat} {r : Int32} {κ' : zIn} {n' : Nat → Nat} (hk : k = 0) (h : zRk nms k κ n ok r κ' n') : ok r κ' n' := by
  rcases h with ⟨_, h⟩ | ⟨_, _, E, ⟨j, h, _⟩, _⟩
  · exact h
  · omega
theorem zRk_1 {nms : List String} {κ : zIn} {n : Nat → Nat} {ok : zRl9} {k : Nat} {r : Int32} {κ' : zIn} {n' : Nat → Nat} {E : String} (hk : zXk nms k E) (h : zRk nms k κ n ok r κ' n') : r = zcd9 E ∧ κ' = κ ∧ n' = n := by
  rcases h with ⟨h0, _⟩ | ⟨h1, h2, E2, h3, h4⟩
  · obtain ⟨j, q, _⟩ := hk
    omega
  · rw [zXk_u hk h3]; exact ⟨h4, h1, h2⟩
theorem z_Cx.mono {l : Launch} {D : va_G} {cy : Nat → ClassId} {z0 : zRg} {M : zM} {av : List Value} {g : zSh} {σ : zIn} {P P2 : Option Value → zSh → zIn → Prop} {X X2 : String → zSh → zIn → Prop} (h : z_Cx l D cy z0 M av g σ P X) (hP : ∀ v g' σ', P v g' σ' → P2 v g' σ') (hX : ∀ E g' σ', X E g' σ' → X2 E g' σ') : z_Cx l D cy z0 M av g σ P2 X2 := by
  unfold z_Cx vx_Met at h ⊢
  refine MetFree.mono h (fun _ _ q => q) (fun _ _ _ _ _ q => q) (fun a s o s' _ q => ?_)
  rcases q with ⟨⟨⟨v, g', σ', q1, q2, q3⟩, q4⟩, q5⟩ | ⟨q, e, E, ce, L, ⟨⟨g', σ', hp, h1⟩, h2⟩, h3⟩
  · exact Or.inl ⟨⟨⟨v, g', σ', q1, hP _ _ _ q2, q3⟩, q4⟩, q5⟩
  · exact Or.inr ⟨q, e, E, ce, L, ⟨⟨g', σ', hX _ _ _ hp, h1⟩, h2⟩, h3⟩
/-- a call that is refused: nothing has changed -/
theorem zRx_of {nms : List String} {k : Nat} {κ : zIn} {n : Nat → Nat} {ok : zRl9} {g : zSh} {E : String} {g' : zSh} {σ' : zIn} (hn : ∀ e ∈ nms, e = zIO ∨ e = zIX ∨ e = zIY) (h : zSt g σ' κ n) (hx : zXk nms k E) (hg : g' = g) : zRx (g.2.1 1) (zRk nms k κ n ok) κ n E g' σ' := by
  subst hg
  obtain ⟨j, e1, e2⟩ := id hx
  exact ⟨hn E (List.mem_of_getElem? e2), Or.inr ⟨rfl, rfl, E, hx, rfl⟩, h, rfl⟩
theorem zin_z {x : Int32} {m : Nat} (hm : m < 2 ^ 31) (h : zin x m = true) : x = nI (zn x) ∧ zn x < m := by
  obtain ⟨j, hj, e⟩ := zin_t h hm
  have := zn_self e (by omega)
  exact ⟨this.1, by omega⟩
/-- scratch of the searches, of the packing, of the ways, of the minute -/
theorem zfo_P {n : Nat → Nat} {σ σ' : zIn} (h : zfo σ σ') : zFr (inP n) σ σ' := by
  intro i k hp
  by_cases e : i = 2
  · subst e; exact h.2 k (by unfold inP at hp; omega)
  · rw [h.1 i (by unfold inP at hp; omega) e]
theorem zfR_P {n : Nat → Nat} {σ σ' : zIn} (h : zfR σ σ') : zFr (inP n) σ σ' := by
  intro i k hp
  by_cases e : i = 13
  · subst e; exact h.2 k (by unfold inP at hp; omega)
  · rw [h.1 i e (by unfold inP at hp; omega) (by unfold inP at hp; omega)]
theorem zFil_P {n : Nat → Nat} {σ σ' : zIn} (h : ∀ i, i ≠ 7 → i ≠ 8 → i ≠ 9 → i ≠ 10 → σ' i = σ i) : zFr (inP n) σ σ' := by
  intro i k hp
  rw [h i (by unfold inP at hp; omega) (by unfold inP at hp; omega) (by unfold inP at hp; omega) (by unfold inP at hp; omega)]
theorem zA_one {g : zSh} {σ κ : zIn} {n : Nat → Nat} {i k j a kd m : Nat} (h : zSt g σ κ n) (hi : i ∉ g.1) : (z_gr (z_add g i a kd m) k j i).2.1 1 = g.2.1 1 := by
  show va_up g.2.1 i a 1 = _
  have : 1 ≠ i := fun e => hi (e ▸ (zso_1 h.S).1)
  exact if_neg this
section
variable {l : Launch} {D : va_G} {cy : Nat → ClassId} {z0 : zRg} {g : zSh} {σ κ : zIn} {n : Nat → Nat}
def zk_idea (κ : zIn) (n : Nat → Nat) (x : Int32) : zRl9 := zRk [zIX, zIY] (zx_idea (n 0) x) κ n (fun r κ' n' => r = nI (n 0) ∧ κ' = z_up (z_up κ 3 (n 0) x) 2 4 (nI (n 0 + 1)) ∧ n' = zud n 0 (n 0 + 1))
theorem tC_idea (hfl : l.stackTraces = false) (h : zSt g σ κ n) (x : Int32) : z_Cx l D cy z0 NX8_idea [.ref (g.2.1 1), .int x] g σ (zRs (g.2.1 1) (zk_idea κ n x)) (zRx (g.2.1 1) (zk_idea κ n x) κ n) := by
  refine z_Cx.mono (tX8_idea hfl x h.S h.ni h.A.1.2.1) ?_ ?_
  · rintro v g' σ' ⟨h0, rfl, rfl, rfl⟩
    exact ⟨_, _, _, rfl, Or.inl ⟨h0, rfl, rfl, rfl⟩, zst_idea h h0, rfl⟩
  · rintro E g' σ' ⟨hx, hg, rfl⟩
    exact zRx_of (by decide) h hx hg
def zk_entry (κ : zIn) (n : Nat → Nat) (w a b c d : Int32) : zRl9 := zRk [zIO, zIX, zIY] (zx_entry κ (n 0) (n 1) w a b c d) κ n (fun r κ' n' => r = nI (n 1) ∧ κ' = z_up (z_up (z_up (z_up (z_up (z_up κ 4 (n 1) w) 5 (n 1 * 4) a) 5 (n 1 * 4 + 1) b) 5 (n 1 * 4 + 2) c) 5 (n 1 * 4 + 3) d) 2 5 (nI (n 1 + 1)) ∧ n' = zud n 1 (n 1 + 1))
theorem zx_entry_e {σ κ : zIn} {ni ne : Nat} {w a b c d : Int32} (e4 : σ 4 = κ 4) (e5 : σ 5 = κ 5) : zx_entry σ ni ne w a b c d = zx_entry κ ni ne w a b c d := by
  unfold zx_entry zsame znear; rw [e4, e5]
theorem tC_entry (hfl : l.stackTraces = false) (h : zSt g σ κ n) (w a b c d : Int32) : z_Cx l D cy z0 NX8_entry [.ref (g.2.1 1), .int w, .int a, .int b, .int c, .int d] g σ (zRs (g.2.1 1) (zk_entry κ n w a b c d)) (zRx (g.2.1 1) (zk_entry κ n w a b c d) κ n) := by
  refine z_Cx.mono (tX8_entry hfl w a b c d h.S h.ni h.A.1.2.1 h.ne h.A.2.1.2.1 h.wd) ?_ ?_
  · rintro v g' σ' ⟨h0, rfl, rfl, rfl⟩
    rw [zx_entry_e h.r4 h.r5] at h0
    exact ⟨_, _, _, rfl, Or.inl ⟨h0, rfl, rfl, rfl⟩, zst_entry h h0, rfl⟩
  · rintro E g' σ' ⟨hx, hg, rfl⟩
    rw [zx_entry_e h.r4 h.r5] at hx
    exact zRx_of (by decide) h hx hg
def zk_cands (κ : zIn) (n : Nat → Nat) (w : Int32) : zRl9 := zRk [zIX] (zx_cands w) κ n (fun r κ' n' => r = nI (zcnt (zP (κ 4) (n 1) w) (n 1)) ∧ κ' = κ ∧ n' = n)
theorem tC_cands (hfl : l.stackTraces = false) (h : zSt g σ κ n) (w : Int32) : z_Cx l D cy z0 NX8_candidates [.ref (g.2.1 1), .int w] g σ (zRs (g.2.1 1) (zk_cands κ n w)) (zRx (g.2.1 1) (zk_cands κ n w) κ n) := by
  refine z_Cx.mono (tX8_candidates hfl w h.S h.ne h.A.2.1.2.1 h.wd) ?_ ?_
  · rintro v g' σ' ⟨h0, rfl, hf, rfl⟩
    rw [h.r4]
    exact ⟨_, _, _, rfl, Or.inl ⟨h0, rfl, rfl, rfl⟩, h.scr (zfo_P hf), rfl⟩
  · rintro E g' σ' ⟨hx, hg, rfl⟩
    exact zRx_of (by decide) h hx hg
def zk_office (κ : zIn) (n : Nat → Nat) : zRl9 := zRk [zIY] (zx_office (n 3)) κ n (fun r κ' n' => r = nI (n 3) ∧ κ' = z_up (z_up (z_up (z_up (z_zero (z_zero κ (100 + n 3)) (110 + n 3)) (100 + n 3) 1 0) (100 + n 3) 2 0) (100 + n 3) 3 0) 13 4 (nI (n 3 + 1)) ∧ n' = zud n 3 (n 3 + 1))
theorem tC_office (hfl : l.stackTraces = false) (h : zSt g σ κ n) : z_Cx l D cy z0 NX8_office [.ref (g.2.1 1)] g σ (zRs (g.2.1 1) (zk_office κ n)) (zRx (g.2.1 1) (zk_office κ n) κ n) := by
  obtain ⟨⟨f1, f2⟩, -⟩ := zSP_fr h.1
  refine z_Cx.mono (tX8_office hfl h.S h.O h.no h.wf f1 f2) ?_ ?_
  · rintro v g' σ' ⟨h0, rfl, a, b, rfl, rfl⟩
    refine ⟨_, _, _, rfl, Or.inl ⟨h0, rfl, rfl, rfl⟩, zst_office (a := a) (b := b) h h0, ?_⟩
    have e1 : 1 ≠ 100 + n 3 := by omega
    have e2 : 1 ≠ 110 + n 3 := by omega
    show va_up (va_up g.2.1 (100 + n 3) a) (110 + n 3) b 1 = _
    exact (if_neg e2).trans (if_neg e1)
  · rintro E g' σ' ⟨hx, hg, rfl⟩
    exact zRx_of (by decide) h hx hg
def zk_cable (κ : zIn) (n : Nat → Nat) (x1 x2 x3 x4 : Int32) : zRl9 := zRk [zIO, zIX, zIY] (zx_cable (n 3) (n 4) x1 x2 x3 x4) κ n (fun r κ' n' => r = nI (n 4) ∧ κ' = z_up (z_up (z_up (z_up (z_up (z_up (z_up (z_zero κ (120 + n 4)) (120 + n 4) 0 x1) (120 + n 4) 1 x2) (120 + n 4) 2 x3) (120 + n 4) 3 x4) (120 + n 4) 4 0) (120 + n 4) 5 0) 13 5 (nI (n 4 + 1)) ∧ n' = zud n 4 (n 4 + 1))
theorem tC_cable (hfl : l.stackTraces = false) (h : zSt g σ κ n) (x1 x2 x3 x4 : Int32) : z_Cx l D cy z0 NX8_cable [.ref (g.2.1 1), .int x1, .int x2, .int x3, .int x4] g σ (zRs (g.2.1 1) (zk_cable κ n x1 x2 x3 x4)) (zRx (g.2.1 1) (zk_cable κ n x1 x2 x3 x4) κ n) := by
  obtain ⟨-, f1, -⟩ := zSP_fr h.1
  refine z_Cx.mono (tX8_cable hfl x1 x2 x3 x4 h.S h.O h.no h.C h.nc h.wf f1) ?_ ?_
  · rintro v g' σ' ⟨h0, rfl, a, rfl, rfl⟩
    exact ⟨_, _, _, rfl, Or.inl ⟨h0, rfl, rfl, rfl⟩, zst_cable (a := a) h h0, zA_one h f1⟩
  · rintro E g' σ' ⟨hx, hg, rfl⟩
    exact zRx_of (by decide) h hx hg
def zk_broken (κ : zIn) (n : Nat → Nat) (x y : Int32) : zRl9 := zRk [zIO] (zx_in (n 4) x) κ n (fun r κ' n' => ∃ c, c < n 4 ∧ x = nI c ∧ κ' = z_up κ (120 + c) 4 y ∧ r = nI (zcnt (fun m => zcab κ m = nI c) (n 6)) ∧ n' = n)
theorem zSt.cab (h : zSt g σ κ n) {m : Nat} (hm : m < n 6) : zcab σ m = zcab κ m := by
  obtain ⟨⟨q1, q2⟩, -, ⟨q3, q4, q5⟩, -⟩ := (h.M.2 m hm).2.2.2
  unfold zcab
  rw [h.ms hm (by omega), h.ms hm (by omega)]
  by_cases e : κ (200 + m) 9 = 0
  · rw [if_pos e, if_pos e]
    rw [q1, zk0, nI_eq (by omega) (by omega)] at e
    rw [q3, nI_clamp (by omega)]
    exact h.at (inP_5 hm (q5 e))
  · rw [if_neg e, if_neg e]
theorem tC_broken (hfl : l.stackTraces = false) (h : zSt g σ κ n) (x y : Int32) (hy : y = 0 ∨ y = 1) : z_Cx l D cy z0 NX8_broken [.ref (g.2.1 1), .int x, .int y] g σ (zRs (g.2.1 1) (zk_broken κ n x y)) (zRx (g.2.1 1) (zk_broken κ n x y) κ n) := by
  refine z_Cx.mono (tX8_broken hfl x y h.S h.C h.nc h.G h.nm h.lg hy) ?_ ?_
  · rintro v g' σ' ⟨h0, rfl, c, hc, rfl, rfl, rfl⟩
    rw [zcnt_congr (Q := fun m => zcab κ m = nI c) (fun m hm => by rw [h.cab hm])]
    exact ⟨_, _, _, rfl, Or.inl ⟨h0, c, hc, rfl, rfl, rfl, rfl⟩, zst_broken h hc hy, rfl⟩
  · rintro E g' σ' ⟨hx, hg, rfl⟩
    exact zRx_of (by decide) h hx hg
def zk_forbid (κ : zIn) (n : Nat → Nat) (x y : Int32) : zRl9 := zRk [zIO] (zx_in (n 3) x) κ n (fun r κ' n' => ∃ o, o < n 3 ∧ x = nI o ∧ κ' = z_up κ (100 + o) 2 y ∧ r = κ (100 + o) 2 ∧ n' = n)
theorem tC_forbid (hfl : l.stackTraces = false) (h : zSt g σ κ n) (x y : Int32) (hy : y = 0 ∨ y = 1) : z_Cx l D cy z0 NX8_forbid [.ref (g.2.1 1), .int x, .int y] g σ (fun v g' σ' => zRs (g.2.1 1) (zk_forbid κ n x y) v g' σ' ∧ (v = some (.int 0) ∨ v = some (.int 1))) (zRx (g.2.1 1) (zk_forbid κ n x y) κ n) := by
  refine z_Cx.mono (tX8_forbid hfl x y h.S h.O h.no hy h.bans2) ?_ ?_
  · rintro v g' σ' ⟨h0, rfl, o, ho, rfl, rfl, rfl⟩
    refine ⟨⟨_, _, _, rfl, Or.inl ⟨h0, o, ho, rfl, rfl, ?_, rfl⟩, zst_forbid h ho hy, rfl⟩, ?_⟩
    · exact h.at (by unfold inP; omega)
    · rcases h.bans2 o ho with q | q <;> rw [q]
      · exact Or.inl rfl
      · exact Or.inr rfl
  · rintro E g' σ' ⟨hx, hg, rfl⟩
    exact zRx_of (by decide) h hx hg
def zk_key (κ : zIn) (n : Nat → Nat) (x y : Int32) : zRl9 := zRk [zIO, zIX] (zx_key (n 3) x y) κ n (fun r κ' n' => ∃ o, o < n 3 ∧ x = nI o ∧ κ' = z_up κ (100 + o) 1 y ∧ r = nI (zky κ o) ∧ zky κ o ≤ 39 ∧ n' = n)
theorem zkey_ok {no : Nat} {x y : Int32} (h : zx_key no x y = 0) : y = nI (zn y) ∧ zn y ≤ 39 := by
  unfold zx_key at h
  by_cases q1 : zin x no = true
  · rw [if_neg (fun q => q q1)] at h
    by_cases q2 : y < 0 ∨ 39 < y
    · rw [if_pos q2] at h; exact absurd h (by decide)
    · have := z_range (x := y) (a := 0) (b := 39) (Int32.not_lt.mp (fun q => q2 (Or.inl q))) (Int32.not_lt.mp (fun q => q2 (Or.inr q))) (by decide) (by decide)
      exact ⟨this.1, this.2.2⟩
  · rw [if_pos q1] at h; exact absurd h (by decide)
theorem tC_key (hfl : l.stackTraces = false) (h : zSt g σ κ n) (x y : Int32) : z_Cx l D cy z0 NX8_key [.ref (g.2.1 1), .int x, .int y] g σ (zRs (g.2.1 1) (zk_key κ n x y)) (zRx (g.2.1 1) (zk_key κ n x y) κ n) := by
  refine z_Cx.mono (tX8_key hfl x y h.S h.O h.no) ?_ ?_
  · rintro v g' σ' ⟨h0, rfl, o, ho, rfl, rfl, rfl⟩
    refine ⟨_, _, _, rfl, Or.inl ⟨h0, o, ho, rfl, rfl, ?_, (h.keys o ho).2, rfl⟩, zst_key h ho (zkey_ok h0), rfl⟩
    exact (h.keys o ho).1
  · rintro E g' σ' ⟨hx, hg, rfl⟩
    exact zRx_of (by decide) h hx hg
def zk_conf (κ : zIn) (n : Nat → Nat) (x1 x2 x3 x4 : Int32) : zRl9 := zRk [zIX, zIY] (zx_conf (n 5) x1 x2 x3 x4) κ n (fun r κ' n' => r = nI (n 5 + 1) ∧ κ' = z_up (z_up (z_up (z_up (z_up (z_up (z_zero κ (140 + n 5)) (140 + n 5) 0 (nI (n 5 + 1))) (140 + n 5) 1 x1) (140 + n 5) 2 x2) (140 + n 5) 3 x3) (140 + n 5) 4 x4) 1 7 (nI (n 5 + 1)) ∧ n' = zud n 5 (n 5 + 1))
theorem tC_conf (hfl : l.stackTraces = false) (h : zSt g σ κ n) (x1 x2 x3 x4 : Int32) : z_Cx l D cy z0 NX8_conference [.ref (g.2.1 1), .int x1, .int x2, .int x3, .int x4] g σ (zRs (g.2.1 1) (zk_conf κ n x1 x2 x3 x4)) (zRx (g.2.1 1) (zk_conf κ n x1 x2 x3 x4) κ n) := by
  obtain ⟨-, -, f1, -⟩ := zSP_fr h.1
  refine z_Cx.mono (tX8_conference hfl x1 x2 x3 x4 h.S h.U h.nu h.wf f1) ?_ ?_
  · rintro v g' σ' ⟨h0, rfl, a, rfl, rfl⟩
    exact ⟨_, _, _, rfl, Or.inl ⟨h0, rfl, rfl, rfl⟩, zst_conf (a := a) h h0, zA_one h f1⟩
  · rintro E g' σ' ⟨hx, hg, rfl⟩
    exact zRx_of (by decide) h hx hg
def zk_reserve (κ : zIn) (n : Nat → Nat) (x y : Int32) : zRl9 := zRk [zIO] (zx_reserve (n 3) (n 5) x y) κ n (fun r κ' n' => ∃ o k j, o < n 3 ∧ x = nI o ∧ 1 ≤ k ∧ k ≤ n 5 ∧ y = nI k ∧ κ' = z_up κ (110 + o) k 1 ∧ zrat κ' (zdy κ) (n 7 / 1440) (n 5) o j ∧ r = κ j 0 ∧ n' = n)
theorem tC_reserve (hfl : l.stackTraces = false) (h : zSt g σ κ n) (x y : Int32) : z_Cx l D cy z0 NX8_reserve [.ref (g.2.1 1), .int x, .int y] g σ (zRs (g.2.1 1) (zk_reserve κ n x y)) (zRx (g.2.1 1) (zk_reserve κ n x y) κ n) := by
  have hn3 : n 3 ≤ 8 := h.B.1.2.1
  have hn5 : n 5 ≤ 12 := h.K.1.2.1
  refine z_Cx.mono (tX8_reserve hfl x y h.S h.O h.no h.U h.nu h.mi h.K.1.2.2.2 h.ru) ?_ ?_
  · rintro v g' σ' ⟨h0, rfl, o, k, j, ho, rfl, hk, hk2, rfl, rfl, hr, rfl⟩
    have hst := zst_reserve (k := k) h ho
    refine ⟨_, _, _, rfl, Or.inl ⟨h0, o, k, j, ho, rfl, hk, hk2, rfl, rfl, zrat_e (fun q => (hst.at (by unfold inP; omega)).symm) hr, ?_, rfl⟩, hst, rfl⟩
    have hj := zrat_jr hr
    rw [z_up_ne (by rcases hj with q | ⟨q, q1, q2⟩ <;> omega)]
    exact h.at (by unfold inP; rcases hj with q | ⟨q, q1, q2⟩ <;> omega)
  · rintro E g' σ' ⟨hx, hg, rfl⟩
    exact zRx_of (by decide) h hx hg
def zk_draft (κ : zIn) (n : Nat → Nat) (x : Int32) : zRl9 := zRk [zIO, zIY] (zx_draft (n 0) (n 2) x) κ n (fun r κ' n' => r = nI (n 2 + 1) ∧ κ' = z_up (z_up κ 12 (n 2) x) 11 1 (nI (n 2 + 1)) ∧ n' = zud n 2 (n 2 + 1))
theorem tC_draft (hfl : l.stackTraces = false) (h : zSt g σ κ n) (x : Int32) : z_Cx l D cy z0 NX8_draft [.ref (g.2.1 1), .int x] g σ (zRs (g.2.1 1) (zk_draft κ n x)) (zRx (g.2.1 1) (zk_draft κ n x) κ n) := by
  refine z_Cx.mono (tX8_draft hfl x h.S h.ni h.A.1.2.1 h.nd h.A.2.2.2.1) ?_ ?_
  · rintro v g' σ' ⟨h0, rfl, rfl, rfl⟩
    exact ⟨_, _, _, rfl, Or.inl ⟨h0, rfl, rfl, rfl⟩, zst_draft h h0, rfl⟩
  · rintro E g' σ' ⟨hx, hg, rfl⟩
    exact zRx_of (by decide) h hx hg
def zk_rest (κ : zIn) (n : Nat → Nat) (x : Int32) : zRl9 := zRk [zIX, zIY] (zx_rest (n 7) x) κ n (fun r κ' n' => r = nI (n 7 + 1440 * zn x) ∧ n 7 + 1440 * zn x ≤ 1000000 ∧ κ' = z_up κ 1 9 (nI (n 7 + 1440 * zn x)) ∧ n' = zud n 7 (n 7 + 1440 * zn x))
theorem tC_rest (hfl : l.stackTraces = false) (h : zSt g σ κ n) (x : Int32) : z_Cx l D cy z0 NX8_rest [.ref (g.2.1 1), .int x] g σ (zRs (g.2.1 1) (zk_rest κ n x)) (zRx (g.2.1 1) (zk_rest κ n x) κ n) := by
  refine z_Cx.mono (tX8_rest hfl x h.S h.mi h.K.1.2.2.2) ?_ ?_
  · rintro v g' σ' ⟨h0, rfl, rfl, hm, rfl⟩
    exact ⟨_, _, _, rfl, Or.inl ⟨h0, rfl, hm, rfl, rfl⟩, zst_rest h hm, rfl⟩
  · rintro E g' σ' ⟨hx, hg, rfl⟩
    exact zRx_of (by decide) h hx hg
/-- why a wrong letter is refused -/
def zxw (κ : zIn) (n : Nat → Nat) (x y a b : Int32) : Nat := if ¬ (zin x (n 6) = true ∧ zin y (n (100 + zn x)) = true) then 1 else if (a < 0 ∨ 4 < a) ∨ (b < 0 ∨ 25 < b) then 2 else if ¬ (κ (200 + zn x) 9 = 0 ∧ 0 ≤ κ (400 + zn x) (zn y)) then 3 else 0
theorem zxw_e (h : zSt g σ κ n) {x y a b : Int32} : zx_wrong g σ (n 6) x y a b = zxw κ n x y a b := by
  have hn6 : n 6 ≤ 60 := h.M.1.2
  unfold zx_wrong zxw
  by_cases q : zin x (n 6) = true
  · obtain ⟨e1, e2⟩ := zin_z (by omega) q
    have el : g.2.2.2.1 (300 + zn x) = n (100 + zn x) := (h.2.1 _ e2).1
    rw [el, h.ms e2 (by omega)]
    by_cases q2 : zin y (n (100 + zn x)) = true
    · have h24 := (h.M.2 _ e2).2.2.1.2.1
      obtain ⟨f1, f2⟩ := zin_z (by omega) q2
      rw [h.at (inP_4 e2 f2)]
    · rw [if_pos (fun r => q2 r.2), if_pos (fun r => q2 r.2)]
  · rw [if_pos (fun r => q r.1), if_pos (fun r => q r.1)]
def zk_wrong (κ : zIn) (n : Nat → Nat) (x y a b : Int32) : zRl9 := zRk [zIO, zIX, zIY] (zxw κ n x y a b) κ n (fun r κ' n' => ∃ m k q t W, m < n 6 ∧ x = nI m ∧ k < n (100 + m) ∧ y = nI k ∧ q < 5 ∧ a = nI q ∧ t < 26 ∧ b = nI t ∧ W < 2 ^ 31 ∧ κ (400 + m) k = nI W ∧ r = nI W + (nI t - nI (zl (nI W) q)) * nI (26 ^ (4 - q)) ∧ κ' = z_up κ (400 + m) k (nI W + (nI t - nI (zl (nI W) q)) * nI (26 ^ (4 - q))) ∧ n' = n)
theorem tC_wrong (hfl : l.stackTraces = false) (h : zSt g σ κ n) (x y a b : Int32) : z_Cx l D cy z0 NX8_wrong [.ref (g.2.1 1), .int x, .int y, .int a, .int b] g σ (zRs (g.2.1 1) (zk_wrong κ n x y a b)) (zRx (g.2.1 1) (zk_wrong κ n x y a b) κ n) := by
  refine z_Cx.mono (tX8_wrong hfl x y a b h.S h.G h.nm h.l24) ?_ ?_
  · rintro v g' σ' ⟨h0, rfl, m, k, q, t, W, hm, rfl, hk, rfl, hq, rfl, ht, rfl, hW, hw, rfl, rfl⟩
    rw [zxw_e h] at h0
    have el : g'.2.2.2.1 (300 + m) = n (100 + m) := (h.2.1 _ hm).1
    rw [el] at hk
    rw [h.at (inP_4 hm hk)] at hw
    exact ⟨_, _, _, rfl, Or.inl ⟨h0, m, k, q, t, W, hm, rfl, hk, rfl, hq, rfl, ht, rfl, hW, hw, rfl, rfl, rfl⟩, zst_wrong h hm hk hq ht hW hw, rfl⟩
  · rintro E g' σ' ⟨hx, hg, rfl⟩
    rw [zxw_e h] at hx
    exact zRx_of (by decide) h hx hg
def zk_pass (κ : zIn) (n : Nat → Nat) (x : Int32) : zRl9 := zRk [zIX, zIY] (zx_pass (n 7) x) κ n (fun r κ' n' => ∃ j, x = nI j ∧ 1 ≤ j ∧ j ≤ 60 ∧ n 7 + j ≤ 1000000 ∧ r = nI (n 7 + j) ∧ κ' = zPs κ n j ∧ n' = zud n 7 (n 7 + j))
theorem tC_pass (hfl : l.stackTraces = false) (h : zSt g σ κ n) (x : Int32) : z_Cx l D cy z0 NX8_pass [.ref (g.2.1 1), .int x] g σ (zRs (g.2.1 1) (zk_pass κ n x)) (zRx (g.2.1 1) (zk_pass κ n x) κ n) := by
  refine z_Cx.mono (tX8_pass hfl (zst κ, zia κ, zlg κ, zlf κ) x h.S h.O h.no h.C h.nc h.G h.nm h.mi h.K.1.2.2.2 h.mst h.mdy h.cs h.bans) ?_ ?_
  · rintro v g' σ' ⟨h0, rfl, j, k, τ, rfl, hj1, hj2, hj3, hk, hF, hQ, hs, rfl, rfl⟩
    exact ⟨_, _, _, rfl, Or.inl ⟨h0, j, rfl, hj1, hj2, hj3, rfl, rfl, rfl⟩, (zst_pass h hj3 hk hF hQ hs).1, rfl⟩
  · rintro E g' σ' ⟨hx, hg, rfl⟩
    exact zRx_of (by decide) h hx hg
/-- the words behind the last are 0 -/
def zWz (L : List (Nat × Nat)) (W : Nat → Int32) : Nat → Int32 := fun k => if k < L.length then W k else 0
theorem zWd_c {κ : zIn} {n : Nat → Nat} {o : Nat} {b : Bool} {paid many : Nat} {L : List (Nat × Nat)} {W : Nat → Int32} (h : zWd κ n o b paid many L W) : zWd κ n o b paid many L (zWz L W) := by
  obtain ⟨j, a1, c, a2, a3, a4, a5, a6⟩ := h
  exact ⟨j, a1, c, a2, a3, a4, fun i hi => by unfold zWz; rw [if_pos hi]; exact a5 i hi, a6⟩
def zsx (κ : zIn) (n : Nat → Nat) (xa xb xk : Int32) : Prop := ∃ l, zroute (zad κ) (zot κ) (zrt κ) (zbr κ) (n 4) (n 3) (zn xa) (zn xb) l
def zk_send (κ : zIn) (n : Nat → Nat) (b : Bool) (xa xb xk : Int32) : zRl9 := zRk [zIO, zIX, zIY] (zx_send (n 3) (n 2) (n 6) (zsx κ n xa xb xk) xa xb xk) κ n (fun r κ' n' => ∃ fm to l paid many L W, fm < n 3 ∧ xa = nI fm ∧ to < n 3 ∧ xb = nI to ∧ fm ≠ to ∧ (xk = nI (zn xk) ∧ zn xk ≤ 2) ∧ 0 < n 2 ∧ n 6 < 60 ∧ zroute (zad κ) (zot κ) (zrt κ) (zbr κ) (n 4) (n 3) fm to l ∧ 1 ≤ l.length ∧ l.length < 8 ∧ (∀ i, i < l.length → l.getD i 0 < n 4) ∧ zWd κ n fm b paid many L W ∧ r = nI (n 6) ∧ κ' = zSd κ n fm to xk paid many (zWz L W) l ∧ n' = zSn n L.length l.length)
theorem tC_send (hfl : l.stackTraces = false) (h : zSt g σ κ n) (b : Bool) (xa xb xk : Int32) : z_Cx l D cy z0 NX8_send [.ref (g.2.1 1), .int xa, .int xb, .int xk, .int (zb b)] g σ (zRs (g.2.1 1) (zk_send κ n b xa xb xk)) (zRx (g.2.1 1) (zk_send κ n b xa xb xk) κ n) := by
  obtain ⟨-, -, -, f2, f3, f4, f5⟩ := zSP_fr h.1
  refine z_Cx.mono (tX8_send hfl (ky := zky κ) b xa xb xk h.S h.O h.no h.C h.nc h.G h.nm h.U h.nu h.mi h.K.1.2.2.2 h.ru h.dr h.ne h.A.2.1.2.1 h.wd h.pu h.keys h.rq h.cb h.bans h.wf f2 f3 f4 f5) ?_ ?_
  · rintro v g' σ' ⟨h0, rfl, fm, to, l, j, pl, cd, vw, cdw, paid, many, L, s1, s2, s4, s5, a4, b4, c4, d4, p1, rfl, p2, rfl, p3, p4, p5, p6, p7, p8, p9, p10, p11, p12, p13, p14, rfl, p16, p17, p18, rfl⟩
    have hk : xk = nI (zn xk) ∧ zn xk ≤ 2 := by
      have := z_range (x := xk) (a := 0) (b := 2) (Int32.not_lt.mp (fun q => p4 (Or.inl q))) (Int32.not_lt.mp (fun q => p4 (Or.inr q))) (by decide) (by decide)
      exact ⟨this.1, this.2.2⟩
    have hl1 : 1 ≤ l.length := by
      cases l with
      | nil => exact absurd p7 p3
      | cons a l => simp
    have hw := zWd_of h p1 (fun i q => p9.1 i q.1 q.2.1 q.2.2) p12 p13 p14
    have hst := zst_send (a4 := a4) (b4 := b4) (c4 := c4) (d4 := d4) (W := zWz L (s2 10)) h p5 p6 p1 p2 hk hl1 p8 p9 p11 p14 (zWd_c hw) (fun k hk => by unfold zWz; rw [if_pos hk]) p16 p17 p18
    refine ⟨_, _, _, rfl, Or.inl ⟨h0, fm, to, l, paid, many, L, s2 10, p1, rfl, p2, rfl, p3, hk, p5, p6, p7, hl1, p8, fun i hi => (p11 i hi).2, hw, rfl, rfl, rfl⟩, hst, ?_⟩
    have e : ∀ q, 200 ≤ q → 1 ≠ q := fun q hq => by omega
    show va_up (va_up (va_up (va_up g.2.1 (200 + n 6) a4) (300 + n 6) b4) (400 + n 6) c4) (500 + n 6) d4 1 = _
    exact (if_neg (e _ (by omega))).trans ((if_neg (e _ (by omega))).trans ((if_neg (e _ (by omega))).trans (if_neg (e _ (by omega)))))
  · rintro E g' σ' ⟨hx, hg, hf⟩
    exact zRx_of (by decide) (h.scr (zfR_P hf)) hx hg
end
