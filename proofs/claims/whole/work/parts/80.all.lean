/-! the relation, whole; what keeps it -/
def zRel (g : zSh) (σ : zIn) (ni ne nd no nc nu nm mi : Nat) : Prop :=
  zSP g no nc nu nm ∧ zGA σ ni ne nd ∧ zGB σ no nc ∧ zGC σ no nu mi ∧ zGE g σ nm no nc ∧ (∀ m, m < nm → zGw (zln3 g m) σ m) ∧ (∀ m, m < nm → zGq (zln5 g m) σ m) ∧ zGF g σ nm ∧ ∀ m, nm ≤ m → σ 56 m = 0
theorem zFr_up {P : Nat → Nat → Prop} {σ τ : zIn} {a b : Nat} {v : Int32} (h : ¬ P a b) (H : zFr P σ τ) : zFr P σ (z_up τ a b v) := by
  intro i k hp
  show (if i = a then (if k = b then v else τ i k) else τ i k) = σ i k
  split
  · rename_i q
    split
    · rename_i q2
      subst q; subst q2; exact absurd hp h
    · exact H i k hp
  · exact H i k hp
theorem zFr_ze {P : Nat → Nat → Prop} {σ τ : zIn} {a : Nat} (h : ∀ k, ¬ P a k) (H : zFr P σ τ) : zFr P σ (z_zero τ a) := by
  intro i k hp
  show (if i = a then 0 else τ i k) = σ i k
  split
  · rename_i q
    subst q; exact absurd hp (h k)
  · exact H i k hp
theorem zFr_rf {P : Nat → Nat → Prop} {σ : zIn} : zFr P σ σ := fun _ _ _ => rfl
theorem zFr_t {P : Nat → Nat → Prop} {σ τ υ : zIn} (h : zFr P σ τ) (h2 : zFr P τ υ) : zFr P σ υ := fun i k hp => (h2 i k hp).trans (h i k hp)
theorem zFr_w {P Q : Nat → Nat → Prop} {σ τ : zIn} (h : zFr P σ τ) (hq : ∀ i k, Q i k → P i k) : zFr Q σ τ := fun i k hp => h i k (hq i k hp)
/-- the places of all groups -/
def inM (i k : Nat) : Prop := inE i k ∨ inW i k ∨ inQ i k ∨ inF i k
def inZ (i k : Nat) : Prop := inA i k ∨ inB i k ∨ inC i k ∨ inM i k
theorem zRel_m {g : zSh} {σ τ : zIn} {nm no nc : Nat} (h : zFr inM σ τ) (hn : nm ≤ 60) (H : zGE g σ nm no nc ∧ (∀ m, m < nm → zGw (zln3 g m) σ m) ∧ (∀ m, m < nm → zGq (zln5 g m) σ m) ∧ zGF g σ nm ∧ ∀ m, nm ≤ m → σ 56 m = 0) :
    zGE g τ nm no nc ∧ (∀ m, m < nm → zGw (zln3 g m) τ m) ∧ (∀ m, m < nm → zGq (zln5 g m) τ m) ∧ zGF g τ nm ∧ ∀ m, nm ≤ m → τ 56 m = 0 :=
  ⟨zGE_e (zFr_w h fun _ _ q => Or.inl q) H.1, fun m hm => zGw_e (by omega) (zFr_w h fun _ _ q => Or.inr (Or.inl q)) (H.2.1 m hm), fun m hm => zGq_e (by omega) (zFr_w h fun _ _ q => Or.inr (Or.inr (Or.inl q))) (H.2.2.1 m hm), zGF_e (zFr_w h fun _ _ q => Or.inr (Or.inr (Or.inr q))) H.2.2.2.1,
    fun m hm => by rw [h 56 m (Or.inr (Or.inr (Or.inl (by unfold inQ; omega))))]; exact H.2.2.2.2 m hm⟩
theorem zRel_e {g : zSh} {σ τ : zIn} {ni ne nd no nc nu nm mi : Nat} (h : zFr inZ σ τ) (H : zRel g σ ni ne nd no nc nu nm mi) : zRel g τ ni ne nd no nc nu nm mi := by
  obtain ⟨a, b, c, d, e⟩ := H
  exact ⟨a, zGA_e (zFr_w h fun _ _ q => Or.inl q) b, zGB_e (zFr_w h fun _ _ q => Or.inr (Or.inl q)) c, zGC_e (zFr_w h fun _ _ q => Or.inr (Or.inr (Or.inl q))) d, zRel_m (zFr_w h fun _ _ q => Or.inr (Or.inr (Or.inr q))) a.2.2.2.2.2.1.1 e⟩
theorem zRel_A {g : zSh} {σ τ : zIn} {ni ne nd no nc nu nm mi ni2 ne2 nd2 : Nat} (h : zFr (fun i k => inB i k ∨ inC i k ∨ inM i k) σ τ) (hA : zGA τ ni2 ne2 nd2) (H : zRel g σ ni ne nd no nc nu nm mi) : zRel g τ ni2 ne2 nd2 no nc nu nm mi := by
  obtain ⟨a, b, c, d, e⟩ := H
  exact ⟨a, hA, zGB_e (zFr_w h fun _ _ q => Or.inl q) c, zGC_e (zFr_w h fun _ _ q => Or.inr (Or.inl q)) d, zRel_m (zFr_w h fun _ _ q => Or.inr (Or.inr q)) a.2.2.2.2.2.1.1 e⟩
theorem zRel_B {g : zSh} {σ τ : zIn} {ni ne nd no nc nu nm mi : Nat} (h : zFr (fun i k => inA i k ∨ inC i k ∨ inM i k) σ τ) (hB : zGB τ no nc) (H : zRel g σ ni ne nd no nc nu nm mi) : zRel g τ ni ne nd no nc nu nm mi := by
  obtain ⟨a, b, c, d, e⟩ := H
  exact ⟨a, zGA_e (zFr_w h fun _ _ q => Or.inl q) b, hB, zGC_e (zFr_w h fun _ _ q => Or.inr (Or.inl q)) d, zRel_m (zFr_w h fun _ _ q => Or.inr (Or.inr q)) a.2.2.2.2.2.1.1 e⟩
theorem zRel_C {g : zSh} {σ τ : zIn} {ni ne nd no nc nu nm mi mi2 : Nat} (h : zFr (fun i k => inA i k ∨ inB i k ∨ inM i k) σ τ) (hC : zGC τ no nu mi2) (H : zRel g σ ni ne nd no nc nu nm mi) : zRel g τ ni ne nd no nc nu nm mi2 := by
  obtain ⟨a, b, c, d, e⟩ := H
  exact ⟨a, zGA_e (zFr_w h fun _ _ q => Or.inl q) b, zGB_e (zFr_w h fun _ _ q => Or.inr (Or.inl q)) c, hC, zRel_m (zFr_w h fun _ _ q => Or.inr (Or.inr q)) a.2.2.2.2.2.1.1 e⟩
/-- idea, in the order in which both sides write -/
theorem zst_idea {g : zSh} {σ : zIn} {ni ne nd no nc nu nm mi : Nat} {x w : Int32} (H : zRel g σ ni ne nd no nc nu nm mi) (hx : zx_idea ni x = 0) : zRel g (z_up (z_up (z_up (z_up (z_up (z_up σ 3 ni x) 2 4 (nI (ni + 1))) 59 0 w) 21 48 0) 22 ni x) 21 0 (nI (ni + 1))) (ni + 1) ne nd no nc nu nm mi := by
  refine zRel_A ?_ (zGA_idea H.2.1 hx ?_ ?_ ?_ ?_ ?_) H
  · repeat (refine zFr_up (by intro hq; unfold inB inC inM inE inW inQ inF at hq; omega) ?_)
    exact zFr_rf
  · funext k; simp [z_up, upd]
  · funext k; simp [z_up, upd]
  · simp [z_up]
  · simp [z_up]
  · repeat (refine zFr_up (by intro hq; unfold inA at hq; omega) ?_)
    exact zFr_rf
theorem zst_draft {g : zSh} {σ : zIn} {ni ne nd no nc nu nm mi : Nat} {x w : Int32} (H : zRel g σ ni ne nd no nc nu nm mi) (hx : zx_draft ni nd x = 0) : zRel g (z_up (z_up (z_up (z_up (z_up (z_up σ 12 nd x) 11 1 (nI (nd + 1))) 59 0 w) 21 48 0) 38 nd x) 21 22 (nI (nd + 1))) ni ne (nd + 1) no nc nu nm mi := by
  refine zRel_A ?_ (zGA_draft H.2.1 hx ?_ ?_ ?_ ?_ ?_) H
  · repeat (refine zFr_up (by intro hq; unfold inB inC inM inE inW inQ inF at hq; omega) ?_)
    exact zFr_rf
  · funext k; simp [z_up, upd]
  · funext k; simp [z_up, upd]
  · simp [z_up]
  · simp [z_up]
  · repeat (refine zFr_up (by intro hq; unfold inA at hq; omega) ?_)
    exact zFr_rf
