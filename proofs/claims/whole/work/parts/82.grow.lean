/-! the relation through a new office, a new cable -/
theorem zM_mono {g : zSh} {σ τ : zIn} {nm no nc no2 nc2 : Nat} (hn : nm ≤ 60) (h1 : no ≤ no2) (h2 : nc ≤ nc2) (h29 : ∀ c, c < nc → τ 29 c = σ 29 c) (h30 : ∀ c, c < nc → τ 30 c = σ 30 c) (h31 : ∀ c, c < nc → τ 31 c = σ 31 c) (h : zFr (fun i k => inM i k ∧ i ≠ 29 ∧ i ≠ 30 ∧ i ≠ 31) σ τ)
    (H : zGE g σ nm no nc ∧ (∀ m, m < nm → zGw (zln3 g m) σ m) ∧ (∀ m, m < nm → zGq (zln5 g m) σ m) ∧ zGF g σ nm ∧ ∀ m, nm ≤ m → σ 56 m = 0) :
    zGE g τ nm no2 nc2 ∧ (∀ m, m < nm → zGw (zln3 g m) τ m) ∧ (∀ m, m < nm → zGq (zln5 g m) τ m) ∧ zGF g τ nm ∧ ∀ m, nm ≤ m → τ 56 m = 0 := by
  obtain ⟨a, b, c, d, e⟩ := H
  refine ⟨zGE_mono a h1 h2 h29 h30 (zFr_w h fun i k q => ⟨Or.inl q.1, q.2.1, q.2.2, ?_⟩), fun m hm => zGw_e (by omega) (zFr_w h fun i k q => ⟨Or.inr (Or.inl q), ?_⟩) (b m hm), fun m hm => zGq_mono (by omega) (a.2 m hm) (c m hm) h29 h30 (zFr_w h fun i k q => ⟨Or.inr (Or.inr (Or.inl q.1)), q.2.1, q.2.2, ?_⟩), zGF_mono a d h29 h31 (zFr_w h fun i k q => ⟨Or.inr (Or.inr (Or.inr q.1)), q.2.1, ?_, q.2.2⟩), fun m hm => ?_⟩
  · obtain ⟨q1, _⟩ := q; unfold inE at q1; omega
  · unfold inW at q; omega
  · obtain ⟨q1, _⟩ := q; unfold inQ at q1; omega
  · obtain ⟨q1, _⟩ := q; unfold inF at q1; omega
  · rw [h 56 m ⟨Or.inr (Or.inr (Or.inl (by unfold inQ; omega))), by omega⟩]; exact e m hm
theorem zx_cable_lt {no nc : Nat} {x1 x2 x3 x4 : Int32} (h : zx_cable no nc x1 x2 x3 x4 = 0) : nc ≠ 12 := by
  intro q
  unfold zx_cable at h
  rw [if_pos q] at h
  split at h
  · exact absurd h (by decide)
  · split at h <;> exact absurd h (by decide)
theorem zst_cable {g : zSh} {σ : zIn} {ni ne nd no nc nu nm mi : Nat} {x1 x2 x3 x4 u : Int32} {a : Nat} (H : zRel g σ ni ne nd no nc nu nm mi) (hx : zx_cable no nc x1 x2 x3 x4 = 0) : zRel (z_gr (z_add g (120 + nc) a 1 0) 15 nc (120 + nc)) (z_up (z_up (z_up (z_up (z_up (z_up (z_up (z_up (z_up (z_up (z_up (z_up (z_up (z_up (z_zero σ (120 + nc)) (120 + nc) 0 x1) (120 + nc) 1 x2) (120 + nc) 2 x3) (120 + nc) 3 x4) (120 + nc) 4 0) (120 + nc) 5 0) 13 5 (nI (nc + 1))) 59 0 u) 21 48 0) 29 nc x1) 30 nc x2) 31 nc x3) 32 nc x4) 21 10 (nI (nc + 1))) ni ne nd no (nc + 1) nu nm mi := by
  have hn := zx_cable_lt hx
  have hc12 := H.2.2.1.1.2.2.2.2.2
  obtain ⟨p1, p2⟩ := zSP_cable (a := a) H.1 (by omega)
  obtain ⟨_, hA, hB, hC, hM⟩ := H
  refine ⟨p1, zGA_e ?_ hA, zGB_cable hB hx ?_ ?_ ?_ ?_ ?_ ?_ ?_ ?_ ?_ ?_ ?_ ?_, zGC_e ?_ hC, zM_g p2 (zM_mono p1.2.2.2.2.2.1.1 (Nat.le_refl _) (Nat.le_succ _) ?_ ?_ ?_ ?_ hM)⟩
  · repeat (first | refine zFr_up (by intro hq; unfold inA at hq; omega) ?_ | refine zFr_ze (by intro k9 hq; unfold inA at hq; omega) ?_)
    exact zFr_rf
  · repeat first | rw [z_up_ne (by omega)] | rw [z_up_app]
    try simp
  · repeat first | rw [z_up_ne (by omega)] | rw [z_up_app]
    try simp
  · repeat first | rw [z_up_ne (by omega)] | rw [z_up_app]
    try simp
  · repeat first | rw [z_up_ne (by omega)] | rw [z_up_app]
    try simp
  · repeat first | rw [z_up_ne (by omega)] | rw [z_up_app]
    try simp
  · repeat first | rw [z_up_ne (by omega)] | rw [z_zero_ne (by omega)] | rw [z_up_at]
  · repeat first | rw [z_up_ne (by omega)] | rw [z_zero_ne (by omega)] | rw [z_up_at]
  · repeat first | rw [z_up_ne (by omega)] | rw [z_zero_ne (by omega)] | rw [z_up_at]
  · repeat first | rw [z_up_ne (by omega)] | rw [z_zero_ne (by omega)] | rw [z_up_at]
  · repeat first | rw [z_up_ne (by omega)] | rw [z_up_app]
    try simp
  · repeat first | rw [z_up_ne (by omega)] | rw [z_up_app]
    try simp
  · repeat (first | refine zFr_up (by intro hq; unfold inB at hq; omega) ?_ | refine zFr_ze (by intro k9 hq; unfold inB at hq; omega) ?_)
    exact zFr_rf
  · repeat (first | refine zFr_up (by intro hq; unfold inC at hq; omega) ?_ | refine zFr_ze (by intro k9 hq; unfold inC at hq; omega) ?_)
    exact zFr_rf
  · intro c hc
    repeat first | rw [z_up_ne (by omega)] | rw [z_zero_ne (by omega)] | rw [z_up_at]
    exact zupd_n (by omega)
  · intro c hc
    repeat first | rw [z_up_ne (by omega)] | rw [z_zero_ne (by omega)] | rw [z_up_at]
    exact zupd_n (by omega)
  · intro c hc
    repeat first | rw [z_up_ne (by omega)] | rw [z_zero_ne (by omega)] | rw [z_up_at]
    exact zupd_n (by omega)
  · repeat (first | refine zFr_up (by intro hq; unfold inM inE inW inQ inF at hq; omega) ?_ | refine zFr_ze (by intro k9 hq; unfold inM inE inW inQ inF at hq; omega) ?_)
    exact zFr_rf
theorem zst_office {g : zSh} {σ : zIn} {ni ne nd no nc nu nm mi : Nat} {u : Int32} {a b : Nat} (H : zRel g σ ni ne nd no nc nu nm mi) (hx : zx_office no = 0) : zRel (z_gr (z_gr (z_add (z_add g (100 + no) a 5 0) (110 + no) b 11 13) (100 + no) 0 (110 + no)) 14 no (100 + no)) (z_up (z_up (z_up (z_up (z_up (z_up (z_up (z_zero (z_zero σ (100 + no)) (110 + no)) (100 + no) 1 0) (100 + no) 2 0) (100 + no) 3 0) 13 4 (nI (no + 1))) 59 0 u) 21 48 0) 21 5 (nI (no + 1))) ni ne nd (no + 1) nc nu nm mi := by
  have hn : no ≠ 8 := fun q => by unfold zx_office at hx; rw [if_pos q] at hx; exact absurd hx (by decide)
  have hb := H.2.2.1.1.2.2.1
  obtain ⟨p1, p2⟩ := zSP_office (a := a) (b := b) H.1 (by omega)
  obtain ⟨_, hA, hB, hC, hM⟩ := H
  refine ⟨p1, zGA_e ?_ hA, zGB_office hB hx ?_ ?_ ?_ ?_ ?_ ?_, zGC_office hC (by omega) ?_ ?_, zM_g p2 (zM_mono p1.2.2.2.2.2.1.1 (Nat.le_succ _) (Nat.le_refl _) ?_ ?_ ?_ ?_ hM)⟩
  · repeat (first | refine zFr_up (by intro hq; unfold inA at hq; omega) ?_ | refine zFr_ze (by intro k9 hq; unfold inA at hq; omega) ?_)
    exact zFr_rf
  · repeat first | rw [z_up_ne (by omega)] | rw [z_up_app]
    try simp
  · repeat first | rw [z_up_ne (by omega)] | rw [z_up_app]
    try simp
  · repeat first | rw [z_up_ne (by omega)] | rw [z_up_app]
    try simp
  · repeat first | rw [z_up_ne (by omega)] | rw [z_up_app]
    try simp
  · repeat first | rw [z_up_ne (by omega)] | rw [z_up_app]
    try simp
  · repeat (first | refine zFr_up (by intro hq; unfold inB at hq; omega) ?_ | refine zFr_ze (by intro k9 hq; unfold inB at hq; omega) ?_)
    exact zFr_rf
  · intro k
    repeat first | rw [z_up_ne (by omega)]
    simp [z_zero]
  · repeat (first | refine zFr_up (by intro hq; unfold inC at hq; omega) ?_ | refine zFr_ze (by intro k9 hq; unfold inC at hq; omega) ?_)
    exact zFr_rf
  · intro c hc
    repeat first | rw [z_up_ne (by omega)] | rw [z_zero_ne (by omega)]
  · intro c hc
    repeat first | rw [z_up_ne (by omega)] | rw [z_zero_ne (by omega)]
  · intro c hc
    repeat first | rw [z_up_ne (by omega)] | rw [z_zero_ne (by omega)]
  · repeat (first | refine zFr_up (by intro hq; unfold inM inE inW inQ inF at hq; omega) ?_ | refine zFr_ze (by intro k9 hq; unfold inM inE inW inQ inF at hq; omega) ?_)
    exact zFr_rf
