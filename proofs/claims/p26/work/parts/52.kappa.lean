/-! the state of an object, told apart from its addresses: numbers κ, counts n (0 ideas, 1 entries, 2 drafted, 3 offices, 4 cables, 5 conferences, 6 messages, 7 minute; 100 + m words, 200 + m cables of message m) -/
def zad (κ : zIn) (c : Nat) : Nat := zn (κ (120 + c) 0)
def zot (κ : zIn) (c : Nat) : Nat := zn (κ (120 + c) 1)
def zrt (κ : zIn) (c : Nat) : Nat := zn (κ (120 + c) 2)
def zsp (κ : zIn) (c : Nat) : Nat := zn (κ (120 + c) 3)
def zbr (κ : zIn) (c : Nat) : Bool := !decide (κ (120 + c) 4 = 0)
def zky (κ : zIn) (o : Nat) : Nat := zn (κ (100 + o) 1)
def zfb (κ : zIn) (o : Nat) : Bool := !decide (κ (100 + o) 2 = 0)
def zdy (κ : zIn) (k : Nat) : Nat := zn (κ (140 + k) 1)
def zpl (κ : zIn) (j : Nat) : Nat := zn (κ j 2)
def zcd (κ : zIn) (j : Nat) : Nat := zn (κ j 3)
def zvo (κ : zIn) (j : Nat) : Nat := zn (κ j 4)
def zfm (κ : zIn) (m : Nat) : Nat := zn (κ (200 + m) 0)
def ztt (κ : zIn) (m : Nat) : Nat := zn (κ (200 + m) 1)
def zkd (κ : zIn) (m : Nat) : Nat := zn (κ (200 + m) 2)
def zpd (κ : zIn) (m : Nat) : Nat := zn (κ (200 + m) 3)
def zhc (κ : zIn) (m : Nat) : Bool := !decide (κ (200 + m) 5 = 0)
def zst (κ : zIn) (m : Nat) : Nat := zn (κ (200 + m) 9)
def zia (κ : zIn) (m : Nat) : Nat := zn (κ (200 + m) 10)
def zlg (κ : zIn) (m : Nat) : Nat := zn (κ (200 + m) 11)
def zlf (κ : zIn) (m : Nat) : Nat := zn (κ (200 + m) 12)
def zro (κ : zIn) (m k : Nat) : Nat := zn (κ (500 + m) k)
def zIA (κ : zIn) (ni ne nd : Nat) : Prop :=
  (κ 2 4 = nI ni ∧ ni ≤ 30 ∧ ∀ k, k < ni → κ 3 k = nI (zf κ 3 k) ∧ 1 ≤ zf κ 3 k ∧ zf κ 3 k ≤ 20) ∧
  (κ 2 5 = nI ne ∧ ne ≤ 40 ∧ (∀ k, k < ne → zwd (κ 4 k)) ∧ zPh (κ 5) ne ∧ ∀ j k, j < k → k < ne → 2 ≤ zp (κ 4 k) (κ 4 j)) ∧
  (κ 11 1 = nI nd ∧ nd ≤ 24 ∧ ∀ i, i < nd → κ 12 i = nI (zf κ 12 i) ∧ zf κ 12 i < ni)
def zIB (κ : zIn) (no nc : Nat) : Prop :=
  (κ 13 4 = nI no ∧ no ≤ 8 ∧ κ 13 5 = nI nc ∧ nc ≤ 12) ∧ (∀ o, o < no → (κ (100 + o) 2 = 0 ∨ κ (100 + o) 2 = 1) ∧ κ (100 + o) 1 = nI (zky κ o) ∧ zky κ o ≤ 39) ∧ zCb κ nc no (zad κ) (zot κ) (zrt κ) (zsp κ) (zbr κ)
def zIC (κ : zIn) (nu mi : Nat) : Prop :=
  (κ 1 7 = nI nu ∧ nu ≤ 12 ∧ κ 1 9 = nI mi ∧ mi ≤ 1000000) ∧ zRu κ nu (zdy κ) ∧ (∀ j, j = 18 ∨ (∃ k, k < nu ∧ j = 140 + k) → zRl κ j (zpl κ j) (zcd κ j) (zvo κ j)) ∧ κ 18 0 = 0
/-- what of a message stays, its words, what changes -/
def zIm (κ : zIn) (no nc m : Nat) : Prop :=
  (κ (200 + m) 0 = nI (zfm κ m) ∧ zfm κ m < no) ∧ (κ (200 + m) 1 = nI (ztt κ m) ∧ ztt κ m < no) ∧ (κ (200 + m) 2 = nI (zkd κ m) ∧ zkd κ m ≤ 2) ∧ (κ (200 + m) 3 = nI (zpd κ m) ∧ 1 ≤ zpd κ m ∧ zpd κ m ≤ 1000) ∧ (κ (200 + m) 5 = 0 ∨ κ (200 + m) 5 = 1)
def zIr (κ : zIn) (nc w5 m : Nat) : Prop := 1 ≤ w5 ∧ w5 < 8 ∧ (∀ k, k < w5 → κ (500 + m) k = nI (zro κ m k) ∧ zro κ m k < nc) ∧ κ (200 + m) 4 = nI (zsum (fun i => zrt κ (zro κ m i)) w5) * κ (200 + m) 3 * zkt (κ (200 + m) 2)
def zIw (κ : zIn) (w3 m : Nat) : Prop := 1 ≤ w3 ∧ w3 ≤ 24 ∧ ∀ k, k < w3 → (zwd (κ (300 + m) k) ∧ zwd (κ (400 + m) k)) ∨ (κ (300 + m) k < 0 ∧ κ (400 + m) k = κ (300 + m) k)
def zIq (κ : zIn) (no w5 m : Nat) : Prop :=
  (κ (200 + m) 9 = nI (zst κ m) ∧ zst κ m ≤ 2) ∧ (κ (200 + m) 10 = nI (zia κ m) ∧ zia κ m < no) ∧ (κ (200 + m) 11 = nI (zlg κ m) ∧ zlg κ m ≤ 8 ∧ (zst κ m = 0 → zlg κ m < w5)) ∧ κ (200 + m) 12 = nI (zlf κ m) ∧ zlf κ m ≤ 1000
def zIM (κ : zIn) (n : Nat → Nat) : Prop :=
  (κ 1 8 = nI (n 6) ∧ n 6 ≤ 60) ∧ ∀ m, m < n 6 → zIm κ (n 3) (n 4) m ∧ zIr κ (n 4) (n (200 + m)) m ∧ zIw κ (n (100 + m)) m ∧ zIq κ (n 3) (n (200 + m)) m
def zbal (κ : zIn) (n : Nat → Nat) (o : Nat) : Int32 := zis (fun m => zshr κ (zad κ) (zro κ m) m (zfm κ m) o (n (200 + m))) (n 6)
def zIF (κ : zIn) (n : Nat → Nat) : Prop := ∀ o, o < n 3 → κ (100 + o) 3 = zbal κ n o
def zIv (κ : zIn) (n : Nat → Nat) : Prop := zIA κ (n 0) (n 1) (n 2) ∧ zIB κ (n 3) (n 4) ∧ zIC κ (n 5) (n 7) ∧ zIM κ n ∧ zIF κ n
/-- the places that count -/
def inP (n : Nat → Nat) (i k : Nat) : Prop :=
  i = 3 ∨ i = 4 ∨ i = 5 ∨ i = 12 ∨ i = 18 ∨ (i = 2 ∧ (k = 4 ∨ k = 5)) ∨ (i = 11 ∧ k = 1) ∨ (i = 13 ∧ (k = 4 ∨ k = 5)) ∨ (i = 1 ∧ 7 ≤ k ∧ k ≤ 9) ∨ (100 ≤ i ∧ i < 100 + n 3 ∧ 1 ≤ k ∧ k ≤ 3) ∨ (110 ≤ i ∧ i < 110 + n 3) ∨ (120 ≤ i ∧ i < 120 + n 4 ∧ k ≤ 4) ∨ (140 ≤ i ∧ i < 140 + n 5 ∧ k ≤ 4) ∨
  (200 ≤ i ∧ i < 200 + n 6 ∧ (k ≤ 5 ∨ (9 ≤ k ∧ k ≤ 12))) ∨ (300 ≤ i ∧ i < 300 + n 6 ∧ k < n (100 + (i - 300))) ∨ (400 ≤ i ∧ i < 400 + n 6 ∧ k < n (100 + (i - 400))) ∨ (500 ≤ i ∧ i < 500 + n 6 ∧ k < n (200 + (i - 500)))
theorem inP_3 {n : Nat → Nat} {m k : Nat} (hm : m < n 6) (hk : k < n (100 + m)) : inP n (300 + m) k := by
  unfold inP
  rw [show 300 + m - 300 = m by omega]; omega
theorem inP_4 {n : Nat → Nat} {m k : Nat} (hm : m < n 6) (hk : k < n (100 + m)) : inP n (400 + m) k := by
  unfold inP
  rw [show 400 + m - 400 = m by omega]; omega
theorem inP_5 {n : Nat → Nat} {m k : Nat} (hm : m < n 6) (hk : k < n (200 + m)) : inP n (500 + m) k := by
  unfold inP
  rw [show 500 + m - 500 = m by omega]; omega
def zSt (g : zSh) (σ κ : zIn) (n : Nat → Nat) : Prop :=
  zSP g (n 3) (n 4) (n 5) (n 6) ∧ (∀ m, m < n 6 → zln3 g m = n (100 + m) ∧ zln5 g m = n (200 + m)) ∧ zFr (inP n) κ σ ∧ zIv κ n
theorem zbr_b {κ : zIn} {nc no : Nat} {a b r s : Nat → Nat} (h : zCb κ nc no a b r s (zbr κ)) {c : Nat} (hc : c < nc) : κ (120 + c) 4 = zb (zbr κ c) := (h c hc).2.2.2.2.2.2.2.2.2.2.2
theorem zb_not0 {x : Int32} (h : x = 0 ∨ x = 1) : x = zb (!decide (x = 0)) := by rcases h with rfl | rfl <;> decide
/-- a place that counts is read alike -/
theorem zSt.at {g : zSh} {σ κ : zIn} {n : Nat → Nat} (h : zSt g σ κ n) {i k : Nat} (hp : inP n i k) : σ i k = κ i k := h.2.2.1 i k hp
theorem zSt.row {g : zSh} {σ κ : zIn} {n : Nat → Nat} (h : zSt g σ κ n) {i : Nat} (hp : ∀ k, inP n i k) : σ i = κ i := funext fun k => h.2.2.1 i k (hp k)
/-- scratch is free -/
theorem zSt.scr {g : zSh} {σ σ' κ : zIn} {n : Nat → Nat} (h : zSt g σ κ n) (hf : zFr (inP n) σ σ') : zSt g σ' κ n := ⟨h.1, h.2.1, fun i k hp => (hf i k hp).trans (h.2.2.1 i k hp), h.2.2.2⟩
/-! what the contracts of the class ask, out of the state -/
section
variable {g : zSh} {σ κ : zIn} {n : Nat → Nat}
theorem zSt.S (h : zSt g σ κ n) : zS g := h.1.1
theorem zSt.wf (h : zSt g σ κ n) : z_wf g := h.1.2.1
theorem zSt.O (h : zSt g σ κ n) : zO g (n 3) := h.1.2.2.1
theorem zSt.C (h : zSt g σ κ n) : zC g (n 4) := h.1.2.2.2.1
theorem zSt.U (h : zSt g σ κ n) : zU g (n 5) := h.1.2.2.2.2.1
theorem zSt.G (h : zSt g σ κ n) : zG g (n 6) := h.1.2.2.2.2.2.1
theorem zSt.A (h : zSt g σ κ n) : zIA κ (n 0) (n 1) (n 2) := h.2.2.2.1
theorem zSt.B (h : zSt g σ κ n) : zIB κ (n 3) (n 4) := h.2.2.2.2.1
theorem zSt.K (h : zSt g σ κ n) : zIC κ (n 5) (n 7) := h.2.2.2.2.2.1
theorem zSt.M (h : zSt g σ κ n) : zIM κ n := h.2.2.2.2.2.2.1
theorem zSt.F (h : zSt g σ κ n) : zIF κ n := h.2.2.2.2.2.2.2
theorem zSt.ni (h : zSt g σ κ n) : σ 2 4 = nI (n 0) := by rw [h.at (by unfold inP; omega)]; exact h.A.1.1
theorem zSt.ne (h : zSt g σ κ n) : σ 2 5 = nI (n 1) := by rw [h.at (by unfold inP; omega)]; exact h.A.2.1.1
theorem zSt.nd (h : zSt g σ κ n) : σ 11 1 = nI (n 2) := by rw [h.at (by unfold inP; omega)]; exact h.A.2.2.1
theorem zSt.no (h : zSt g σ κ n) : σ 13 4 = nI (n 3) := by rw [h.at (by unfold inP; omega)]; exact h.B.1.1
theorem zSt.nc (h : zSt g σ κ n) : σ 13 5 = nI (n 4) := by rw [h.at (by unfold inP; omega)]; exact h.B.1.2.2.1
theorem zSt.nu (h : zSt g σ κ n) : σ 1 7 = nI (n 5) := by rw [h.at (by unfold inP; omega)]; exact h.K.1.1
theorem zSt.nm (h : zSt g σ κ n) : σ 1 8 = nI (n 6) := by rw [h.at (by unfold inP; omega)]; exact h.M.1.1
theorem zSt.mi (h : zSt g σ κ n) : σ 1 9 = nI (n 7) := by rw [h.at (by unfold inP; omega)]; exact h.K.1.2.2.1
theorem zSt.r4 (h : zSt g σ κ n) : σ 4 = κ 4 := h.row (fun k => by unfold inP; omega)
theorem zSt.r5 (h : zSt g σ κ n) : σ 5 = κ 5 := h.row (fun k => by unfold inP; omega)
theorem zSt.r3 (h : zSt g σ κ n) : σ 3 = κ 3 := h.row (fun k => by unfold inP; omega)
theorem zSt.r12 (h : zSt g σ κ n) : σ 12 = κ 12 := h.row (fun k => by unfold inP; omega)
theorem zSt.r18 (h : zSt g σ κ n) : σ 18 = κ 18 := h.row (fun k => by unfold inP; omega)
theorem zSt.wd (h : zSt g σ κ n) : ∀ k, k < n 1 → zwd (σ 4 k) := by rw [h.r4]; exact h.A.2.1.2.2.1
theorem zSt.cb (h : zSt g σ κ n) : zCb σ (n 4) (n 3) (zad κ) (zot κ) (zrt κ) (zsp κ) (zbr κ) := by
  intro c hc
  have e : ∀ k, k ≤ 4 → σ (120 + c) k = κ (120 + c) k := fun k hk => h.at (by unfold inP; omega)
  rw [e 0 (by decide), e 1 (by decide), e 2 (by decide), e 3 (by decide), e 4 (by decide)]
  exact h.B.2.2 c hc
theorem zSt.cs (h : zSt g σ κ n) : zCs σ (n 4) (n 3) (zad κ) (zot κ) (zsp κ) (zbr κ) := by
  intro c hc
  obtain ⟨a1, a2, a3, a4, a5, a6, a7, a8, a9, a10, a11, a12⟩ := h.cb c hc
  exact ⟨⟨a1, a2⟩, ⟨a3, a4⟩, ⟨a9, by omega⟩, a12⟩
theorem zSt.keys (h : zSt g σ κ n) : ∀ o, o < n 3 → σ (100 + o) 1 = nI (zky κ o) ∧ zky κ o ≤ 39 := fun o ho => by
  rw [h.at (by unfold inP; omega)]; exact (h.B.2.1 o ho).2
theorem zSt.bans (h : zSt g σ κ n) : ∀ o, o < n 3 → σ (100 + o) 2 = zb (zfb κ o) := fun o ho => by
  rw [h.at (by unfold inP; omega)]; exact zb_not0 (h.B.2.1 o ho).1
theorem zSt.bans2 (h : zSt g σ κ n) : ∀ o, o < n 3 → σ (100 + o) 2 = 0 ∨ σ (100 + o) 2 = 1 := fun o ho => by
  rw [h.at (by unfold inP; omega)]; exact (h.B.2.1 o ho).1
theorem zSt.ru (h : zSt g σ κ n) : zRu σ (n 5) (zdy κ) := fun k hk => by
  rw [h.at (by unfold inP; omega), h.at (by unfold inP; omega)]; exact h.K.2.1 k hk
theorem zRl_at {σ κ : zIn} {j pl cd vw : Nat} (e : ∀ k, k ≤ 4 → σ j k = κ j k) (h : zRl κ j pl cd vw) : zRl σ j pl cd vw := by
  unfold zRl at *
  rw [e 2 (by decide), e 3 (by decide), e 4 (by decide)]; exact h
theorem zSt.rl (h : zSt g σ κ n) : ∀ j, j = 18 ∨ (∃ k, k < n 5 ∧ j = 140 + k) → zRl σ j (zpl κ j) (zcd κ j) (zvo κ j) := fun j hj =>
  zRl_at (fun k hk => h.at (by unfold inP; rcases hj with q | ⟨q, q1, q2⟩ <;> omega)) (h.K.2.2.1 j hj)
theorem zSt.rq (h : zSt g σ κ n) : ∀ j, j = 18 ∨ (∃ k, k < n 5 ∧ j = 140 + k) → ∃ pl cd vw, zRl σ j pl cd vw := fun j hj => ⟨_, _, _, h.rl j hj⟩
theorem zSt.dr (h : zSt g σ κ n) : zDr σ (n 0) (zf κ 3) (n 2) (zf κ 12) := by
  obtain ⟨⟨a1, a2, a3⟩, b, c1, c2, c3⟩ := h.A
  refine ⟨h.ni, a2, ?_, h.nd, c2, ?_⟩
  · rw [h.r3]; exact a3
  · rw [h.r12]; exact c3
theorem zPU_of {σ : zIn} {ne : Nat} (HA : zPh (σ 5) ne) : ∀ p m j k, j < ne → k < ne → 1 ≤ m → m ≤ 4 → zmt (σ 5) (σ 12) j p m → zmt (σ 5) (σ 12) k p m → j = k := by
  obtain ⟨h1, h2⟩ := HA
  intro p m j k hj hk hm hm4 ⟨a1, a2⟩ ⟨b1, b2⟩
  have down : ∀ q, q < ne → (m < 4 → σ 5 (4 * q + m) = -1) → ∀ i, m ≤ i → i < 4 → σ 5 (4 * q + i) = -1 := by
    intro q hq h i hi
    induction hi with
    | refl => exact h
    | step hi ih => intro h4; exact h1 q hq _ (by omega) (ih (by omega))
  refine h2 j k hj hk (fun i hi => ?_)
  by_cases q : i < m
  · rw [a1 i q, b1 i q]
  · rw [down j hj a2 i (by omega) hi, down k hk b2 i (by omega) hi]
theorem zSt.pu (h : zSt g σ κ n) : ∀ p m j k, j < n 1 → k < n 1 → 1 ≤ m → m ≤ 4 → zmt (σ 5) (σ 12) j p m → zmt (σ 5) (σ 12) k p m → j = k := zPU_of (by rw [h.r5]; exact h.A.2.1.2.2.2.1)
theorem zSt.l24 (h : zSt g σ κ n) : ∀ m, m < n 6 → g.2.2.2.1 (300 + m) ≤ 24 := fun m hm => by
  have e : g.2.2.2.1 (300 + m) = n (100 + m) := (h.2.1 m hm).1
  rw [e]; exact (h.M.2 m hm).2.2.1.2.1
theorem zSt.l8 (h : zSt g σ κ n) : ∀ m, m < n 6 → g.2.2.2.1 (500 + m) ≤ 8 := fun m hm => by
  have e : g.2.2.2.1 (500 + m) = n (200 + m) := (h.2.1 m hm).2
  have := (h.M.2 m hm).2.1.2.1
  omega
theorem zSt.ms (h : zSt g σ κ n) {m k : Nat} (hm : m < n 6) (hk : k ≤ 5 ∨ (9 ≤ k ∧ k ≤ 12)) : σ (200 + m) k = κ (200 + m) k := h.at (by unfold inP; omega)
theorem zSt.lg (h : zSt g σ κ n) : zLg g σ (n 6) := fun m hm => by
  refine ⟨h.l8 m hm, ?_⟩
  have e : g.2.2.2.1 (500 + m) = n (200 + m) := (h.2.1 m hm).2
  rw [h.ms hm (by omega), h.ms hm (by omega), e]
  obtain ⟨⟨q1, q2⟩, -, ⟨q3, q4, q5⟩, -⟩ := (h.M.2 m hm).2.2.2
  intro q
  rw [q1, zk0, nI_eq (by omega) (by omega)] at q
  exact ⟨_, q5 q, q3⟩
theorem zSt.rro (h : zSt g σ κ n) : ∀ m, m < n 6 → ∀ i, i < g.2.2.2.1 (500 + m) → σ (500 + m) i = nI (zro κ m i) ∧ zro κ m i < n 4 := fun m hm i hi => by
  have e : g.2.2.2.1 (500 + m) = n (200 + m) := (h.2.1 m hm).2
  rw [e] at hi
  rw [h.at (inP_5 hm hi)]
  exact (h.M.2 m hm).2.1.2.2.1 i hi
theorem zSt.fr (h : zSt g σ κ n) : ∀ m, m < n 6 → σ (200 + m) 0 = nI (zfm κ m) ∧ zfm κ m < n 3 := fun m hm => by
  rw [h.ms hm (by omega)]; exact (h.M.2 m hm).1.1
theorem zSt.to (h : zSt g σ κ n) : ∀ m, m < n 6 → σ (200 + m) 1 = nI (ztt κ m) ∧ ztt κ m < n 3 := fun m hm => by
  rw [h.ms hm (by omega)]; exact (h.M.2 m hm).1.2.1
theorem zSt.adm (h : zSt g σ κ n) : ∀ c, c < n 4 → σ (120 + c) 0 = nI (zad κ c) ∧ zad κ c < n 3 := fun c hc => ⟨(h.cb c hc).1, (h.cb c hc).2.1⟩
theorem zSt.w3 (h : zSt g σ κ n) {m k : Nat} (hm : m < n 6) (hk : k < g.2.2.2.1 (300 + m)) : σ (300 + m) k = κ (300 + m) k ∧ σ (400 + m) k = κ (400 + m) k := by
  have e : g.2.2.2.1 (300 + m) = n (100 + m) := (h.2.1 m hm).1
  rw [e] at hk
  exact ⟨h.at (inP_3 hm hk), h.at (inP_4 hm hk)⟩
theorem zSt.nw (h : zSt g σ κ n) : ∀ m, m < n 6 → ∀ k, k < g.2.2.2.1 (300 + m) → 0 ≤ σ (400 + m) k → zwd (σ (400 + m) k) := fun m hm k hk h0 => by
  have e : g.2.2.2.1 (300 + m) = n (100 + m) := (h.2.1 m hm).1
  rw [(h.w3 hm hk).2] at h0 ⊢
  rcases (h.M.2 m hm).2.2.1.2.2 k (by omega) with q | q
  · exact q.2
  · rw [q.2] at h0; exact absurd q.1 (Int32.not_lt.mpr h0)
theorem zSt.sn (h : zSt g σ κ n) : ∀ m, m < n 6 → ∀ k, k < g.2.2.2.1 (300 + m) → σ (300 + m) k ≠ σ (400 + m) k → zwd (σ (300 + m) k) ∧ zwd (σ (400 + m) k) := fun m hm k hk h0 => by
  have e : g.2.2.2.1 (300 + m) = n (100 + m) := (h.2.1 m hm).1
  rw [(h.w3 hm hk).1, (h.w3 hm hk).2] at h0 ⊢
  rcases (h.M.2 m hm).2.2.1.2.2 k (by omega) with q | q
  · exact q
  · exact absurd q.2.symm h0
theorem zSt.mst (h : zSt g σ κ n) : zMs g σ (n 6) (n 4) (zkd κ) (zpd κ) (zro κ) (zhc κ) := fun m hm => by
  obtain ⟨⟨a1, a2⟩, ⟨b1, b2⟩, ⟨c1, c2⟩, ⟨d1, d2, d3⟩, e1⟩ := (h.M.2 m hm).1
  refine ⟨h.l8 m hm, ?_, c2, ?_, d3, ?_, h.rro m hm⟩
  · rw [h.ms hm (by omega)]; exact c1
  · rw [h.ms hm (by omega)]; exact d1
  · rw [h.ms hm (by omega)]; exact zb_not0 e1
theorem zSt.mdy (h : zSt g σ κ n) : zMq g σ (n 6) (n 3) (zst κ, zia κ, zlg κ, zlf κ) := fun m hm => by
  have e : g.2.2.2.1 (500 + m) = n (200 + m) := (h.2.1 m hm).2
  rw [h.ms hm (by omega), h.ms hm (by omega), h.ms hm (by omega), h.ms hm (by omega), e]
  exact (h.M.2 m hm).2.2.2
end
