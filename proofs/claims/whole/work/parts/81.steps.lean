/-! the relation through single calls -/
theorem zst_entry {g : zSh} {σ : zIn} {ni ne nd no nc nu nm mi : Nat} {w a b c d u : Int32} (H : zRel g σ ni ne nd no nc nu nm mi) (hx : zx_entry σ ni ne w a b c d = 0) : zRel g (z_up (z_up (z_up (z_up (z_up (z_up (z_up (z_up (z_up (z_up (z_up (z_up (z_up (z_up σ 4 ne w) 5 (ne * 4) a) 5 (ne * 4 + 1) b) 5 (ne * 4 + 2) c) 5 (ne * 4 + 3) d) 2 5 (nI (ne + 1))) 59 0 u) 21 48 0) 23 ne w) 24 (4 * ne) a) 24 (4 * ne + 1) b) 24 (4 * ne + 2) c) 24 (4 * ne + 3) d) 21 2 (nI (ne + 1))) ni (ne + 1) nd no nc nu nm mi := by
  refine zRel_A ?_ (zGA_entry H.2.1 hx ?_ ?_ ?_ ?_ ?_ ?_ ?_) H
  · repeat (first | refine zFr_up (by intro hq; unfold inB inC inM inE inW inQ inF at hq; omega) ?_ | refine zFr_ze (by intro k9 hq; unfold inB inC inM inE inW inQ inF at hq; omega) ?_)
    exact zFr_rf
  · funext k; simp [z_up, upd]
  · funext k; simp [z_up, upd]
  · funext k; simp [z_up, upd, Nat.mul_comm]
  · funext k; simp [z_up, upd]
  · simp [z_up]
  · simp [z_up]
  · repeat (first | refine zFr_up (by intro hq; unfold inA at hq; omega) ?_ | refine zFr_ze (by intro k9 hq; unfold inA at hq; omega) ?_)
    exact zFr_rf
theorem zst_broken {g : zSh} {σ : zIn} {ni ne nd no nc nu nm mi : Nat} {c : Nat} {y u : Int32} (H : zRel g σ ni ne nd no nc nu nm mi) (hc : c < nc) (hy : y = 0 ∨ y = 1) : zRel g (z_up (z_up (z_up (z_up σ (120 + c) 4 y) 59 0 u) 21 48 0) 33 c y) ni ne nd no nc nu nm mi := by
  have hb := H.2.2.1.1.2.2.1
  have hc12 := H.2.2.1.1.2.2.2.2.2
  refine zRel_B ?_ (zGB_broken H.2.2.1 hc hy ?_ ?_ ?_) H
  · repeat (first | refine zFr_up (by intro hq; unfold inA inC inM inE inW inQ inF at hq; omega) ?_ | refine zFr_ze (by intro k9 hq; unfold inA inC inM inE inW inQ inF at hq; omega) ?_)
    exact zFr_rf
  · simp [z_up]
  · funext k
    rw [z_up_at, z_up_ne (by omega), z_up_ne (by omega), z_up_ne (by omega)]
  · repeat (first | refine zFr_up (by intro hq; unfold inB at hq; omega) ?_ | refine zFr_ze (by intro k9 hq; unfold inB at hq; omega) ?_)
    exact zFr_rf
theorem zst_forbid {g : zSh} {σ : zIn} {ni ne nd no nc nu nm mi : Nat} {o : Nat} {y u : Int32} (H : zRel g σ ni ne nd no nc nu nm mi) (ho : o < no) (hy : y = 0 ∨ y = 1) : zRel g (z_up (z_up (z_up (z_up σ (100 + o) 2 y) 59 0 u) 21 48 0) 25 o y) ni ne nd no nc nu nm mi := by
  have hb := H.2.2.1.1.2.2.1
  have hc12 := H.2.2.1.1.2.2.2.2.2
  refine zRel_B ?_ (zGB_forbid H.2.2.1 ho hy ?_ ?_ ?_) H
  · repeat (first | refine zFr_up (by intro hq; unfold inA inC inM inE inW inQ inF at hq; omega) ?_ | refine zFr_ze (by intro k9 hq; unfold inA inC inM inE inW inQ inF at hq; omega) ?_)
    exact zFr_rf
  · simp [z_up]
  · funext k
    rw [z_up_at, z_up_ne (by omega), z_up_ne (by omega), z_up_ne (by omega)]
  · repeat (first | refine zFr_up (by intro hq; unfold inB at hq; omega) ?_ | refine zFr_ze (by intro k9 hq; unfold inB at hq; omega) ?_)
    exact zFr_rf
theorem zst_key {g : zSh} {σ : zIn} {ni ne nd no nc nu nm mi : Nat} {o : Nat} {y u : Int32} (H : zRel g σ ni ne nd no nc nu nm mi) (ho : o < no) (hy : y = nI (zn y) ∧ zn y ≤ 39) : zRel g (z_up (z_up (z_up (z_up σ (100 + o) 1 y) 59 0 u) 21 48 0) 26 o y) ni ne nd no nc nu nm mi := by
  have hb := H.2.2.1.1.2.2.1
  have hc12 := H.2.2.1.1.2.2.2.2.2
  refine zRel_B ?_ (zGB_key H.2.2.1 ho hy ?_ ?_ ?_) H
  · repeat (first | refine zFr_up (by intro hq; unfold inA inC inM inE inW inQ inF at hq; omega) ?_ | refine zFr_ze (by intro k9 hq; unfold inA inC inM inE inW inQ inF at hq; omega) ?_)
    exact zFr_rf
  · simp [z_up]
  · funext k
    rw [z_up_at, z_up_ne (by omega), z_up_ne (by omega), z_up_ne (by omega)]
  · repeat (first | refine zFr_up (by intro hq; unfold inB at hq; omega) ?_ | refine zFr_ze (by intro k9 hq; unfold inB at hq; omega) ?_)
    exact zFr_rf
theorem zst_rest {g : zSh} {σ : zIn} {ni ne nd no nc nu nm mi : Nat} {mi2 : Nat} {u : Int32} (H : zRel g σ ni ne nd no nc nu nm mi) (hm : mi2 ≤ 1000000) : zRel g (z_up (z_up (z_up (z_up σ 1 9 (nI mi2)) 59 0 u) 21 48 0) 21 47 (nI mi2)) ni ne nd no nc nu nm mi2 := by
  refine zRel_C ?_ (zGC_minute H.2.2.2.1 hm ?_ ?_ ?_) H
  · repeat (first | refine zFr_up (by intro hq; unfold inA inB inM inE inW inQ inF at hq; omega) ?_ | refine zFr_ze (by intro k9 hq; unfold inA inB inM inE inW inQ inF at hq; omega) ?_)
    exact zFr_rf
  · simp [z_up]
  · simp [z_up]
  · repeat (first | refine zFr_up (by intro hq; unfold inC at hq; omega) ?_ | refine zFr_ze (by intro k9 hq; unfold inC at hq; omega) ?_)
    exact zFr_rf
theorem zst_reserve {g : zSh} {σ : zIn} {ni ne nd no nc nu nm mi : Nat} {o k : Nat} {u : Int32} (H : zRel g σ ni ne nd no nc nu nm mi) (ho : o < no) (hk : 1 ≤ k) (hku : k ≤ nu) : zRel g (z_up (z_up (z_up (z_up σ (110 + o) k 1) 59 0 u) 21 48 0) 27 o (σ 27 o ||| ((1 : Int32) <<< (nI k &&& 31)))) ni ne nd no nc nu nm mi := by
  have hb := H.2.2.1.1.2.2.1
  have hc12 := H.2.2.1.1.2.2.2.2.2
  refine zRel_C ?_ (zGC_reserve H.2.2.2.1 ho hk hku ?_ ?_ ?_) H
  · repeat (first | refine zFr_up (by intro hq; unfold inA inB inM inE inW inQ inF at hq; omega) ?_ | refine zFr_ze (by intro k9 hq; unfold inA inB inM inE inW inQ inF at hq; omega) ?_)
    exact zFr_rf
  · rw [z_up_ne (by omega), z_up_ne (by omega), z_up_ne (by omega), z_up_app]
    simp
  · funext j
    rw [z_up_at, z_up_ne (by omega), z_up_ne (by omega), z_up_ne (by omega)]
  · repeat (first | refine zFr_up (by intro hq; unfold inC at hq; omega) ?_ | refine zFr_ze (by intro k9 hq; unfold inC at hq; omega) ?_)
    exact zFr_rf
theorem zM_g {g g' : zSh} {σ : zIn} {nm no nc : Nat} (h : ∀ m, m < nm → g'.2.2.2.1 (300 + m) = g.2.2.2.1 (300 + m) ∧ g'.2.2.2.1 (500 + m) = g.2.2.2.1 (500 + m)) (H : zGE g σ nm no nc ∧ (∀ m, m < nm → zGw (zln3 g m) σ m) ∧ (∀ m, m < nm → zGq (zln5 g m) σ m) ∧ zGF g σ nm ∧ ∀ m, nm ≤ m → σ 56 m = 0) :
    zGE g' σ nm no nc ∧ (∀ m, m < nm → zGw (zln3 g' m) σ m) ∧ (∀ m, m < nm → zGq (zln5 g' m) σ m) ∧ zGF g' σ nm ∧ ∀ m, nm ≤ m → σ 56 m = 0 := by
  have h3 : ∀ m, m < nm → zln3 g' m = zln3 g m := fun m hm => (h m hm).1
  have h5 : ∀ m, m < nm → zln5 g' m = zln5 g m := fun m hm => (h m hm).2
  obtain ⟨⟨a1, a2⟩, b, c, d, e⟩ := H
  refine ⟨⟨a1, fun m hm => by rw [h3 m hm, h5 m hm]; exact a2 m hm⟩, fun m hm => by rw [h3 m hm]; exact b m hm, fun m hm => by rw [h5 m hm]; exact c m hm, fun o => ?_, e⟩
  rw [d o]
  exact zis_cg (fun m hm => by rw [h5 m hm])
theorem zx_conf_lt {nu : Nat} {x1 x2 x3 x4 : Int32} (h : zx_conf nu x1 x2 x3 x4 = 0) : nu ≠ 12 := by
  intro q
  unfold zx_conf at h
  rw [if_pos q] at h
  split at h <;> exact absurd h (by decide)
theorem zst_conf {g : zSh} {σ : zIn} {ni ne nd no nc nu nm mi : Nat} {x1 x2 x3 x4 u : Int32} {a : Nat} (H : zRel g σ ni ne nd no nc nu nm mi) (hx : zx_conf nu x1 x2 x3 x4 = 0) : zRel (z_gr (z_add g (140 + nu) a 7 0) 19 nu (140 + nu)) (z_up (z_up (z_up (z_up (z_up (z_up (z_up (z_up (z_up (z_up (z_up (z_up (z_up (z_zero σ (140 + nu)) (140 + nu) 0 (nI (nu + 1))) (140 + nu) 1 x1) (140 + nu) 2 x2) (140 + nu) 3 x3) (140 + nu) 4 x4) 1 7 (nI (nu + 1))) 59 0 u) 21 48 0) 21 16 (nI (nu + 1))) 34 (nu + 1) x1) 35 (nu + 1) x2) 36 (nu + 1) x3) 37 (nu + 1) x4) ni ne nd no nc (nu + 1) nm mi := by
  have hn := zx_conf_lt hx
  have hu := H.2.2.2.1.1.2.2.1
  obtain ⟨p1, p2⟩ := zSP_conf (a := a) H.1 (by omega)
  obtain ⟨_, hA, hB, hC, hM⟩ := H
  refine ⟨p1, zGA_e ?_ hA, zGB_e ?_ hB, zGC_conf hC hx ?_ ?_ ?_ ?_ ?_ ?_ ?_ ?_ ?_ ?_ ?_ ?_, zM_g p2 (zRel_m ?_ p1.2.2.2.2.2.1.1 hM)⟩
  · repeat (first | refine zFr_up (by intro hq; unfold inA at hq; omega) ?_ | refine zFr_ze (by intro k9 hq; unfold inA at hq; omega) ?_)
    exact zFr_rf
  · repeat (first | refine zFr_up (by intro hq; unfold inB at hq; omega) ?_ | refine zFr_ze (by intro k9 hq; unfold inB at hq; omega) ?_)
    exact zFr_rf
  · repeat first | rw [z_up_ne (by omega)] | rw [z_up_app]
    try simp
  · repeat first | rw [z_up_ne (by omega)] | rw [z_up_app]
    try simp
  · repeat first | rw [z_up_ne (by omega)] | rw [z_up_app]
    try simp
  · repeat first | rw [z_up_ne (by omega)] | rw [z_up_app]
    try simp
  · repeat first | rw [z_up_ne (by omega)] | rw [z_up_app]
    try simp
  · repeat first | rw [z_up_ne (by omega)] | rw [z_zero_ne (by omega)] | rw [z_up_at]
  · repeat first | rw [z_up_ne (by omega)] | rw [z_zero_ne (by omega)] | rw [z_up_at]
  · repeat first | rw [z_up_ne (by omega)] | rw [z_zero_ne (by omega)] | rw [z_up_at]
  · repeat first | rw [z_up_ne (by omega)] | rw [z_zero_ne (by omega)] | rw [z_up_at]
  · repeat first | rw [z_up_ne (by omega)] | rw [z_up_app]
    try simp
  · repeat first | rw [z_up_ne (by omega)] | rw [z_up_app]
    try simp
  · repeat (first | refine zFr_up (by intro hq; unfold inC at hq; omega) ?_ | refine zFr_ze (by intro k9 hq; unfold inC at hq; omega) ?_)
    exact zFr_rf
  · repeat (first | refine zFr_up (by intro hq; unfold inM inE inW inQ inF at hq; omega) ?_ | refine zFr_ze (by intro k9 hq; unfold inM inE inW inQ inF at hq; omega) ?_)
    exact zFr_rf
