/-! the state through the calls: an object's world and the state told apart from its addresses go on together -/
theorem zAg_up {P : Nat → Nat → Prop} {κ σ : zIn} {i k : Nat} {v : Int32} (h : zFr P κ σ) : zFr P (z_up κ i k v) (z_up σ i k v) := by
  intro a b hp
  show (if a = i then (if b = k then v else σ a b) else σ a b) = (if a = i then (if b = k then v else κ a b) else κ a b)
  rw [h a b hp]
theorem zAg_ze {P : Nat → Nat → Prop} {κ σ : zIn} {i : Nat} (h : zFr P κ σ) : zFr (fun a b => P a b ∨ a = i) (z_zero κ i) (z_zero σ i) := by
  intro a b hp
  show (if a = i then 0 else σ a b) = (if a = i then 0 else κ a b)
  by_cases e : a = i
  · rw [if_pos e, if_pos e]
  · rw [if_neg e, if_neg e]; exact h a b (hp.resolve_right e)
theorem inP_n {n n' : Nat → Nat} (e3 : n' 3 = n 3) (e4 : n' 4 = n 4) (e5 : n' 5 = n 5) (e6 : n' 6 = n 6) (eL : ∀ m, n' (100 + m) = n (100 + m) ∧ n' (200 + m) = n (200 + m)) {i k : Nat} (h : inP n' i k) : inP n i k := by
  unfold inP at h ⊢
  rw [e3, e4, e5, e6, (eL _).1, (eL _).1, (eL _).2] at h
  exact h
theorem inP_w {n n' : Nat → Nat} {i k : Nat} (a : 100 ≤ i → i < 100 + n' 3 → i < 100 + n 3) (b : 110 ≤ i → i < 110 + n' 3 → i < 110 + n 3) (c : 120 ≤ i → i < 120 + n' 4 → i < 120 + n 4) (d : 140 ≤ i → i < 140 + n' 5 → i < 140 + n 5) (e6 : n' 6 = n 6) (eL : ∀ m, n' (100 + m) = n (100 + m) ∧ n' (200 + m) = n (200 + m)) (hp : inP n' i k) : inP n i k := by
  unfold inP at hp ⊢
  rw [e6, (eL _).1, (eL _).1, (eL _).2] at hp
  exact hp.imp id (Or.imp id (Or.imp id (Or.imp id (Or.imp id (Or.imp id (Or.imp id (Or.imp id (Or.imp id (Or.imp (fun h => ⟨h.1, a h.1 h.2.1, h.2.2⟩) (Or.imp (fun h => ⟨h.1, b h.1 h.2⟩) (Or.imp (fun h => ⟨h.1, c h.1 h.2.1, h.2.2⟩) (Or.imp (fun h => ⟨h.1, d h.1 h.2.1, h.2.2⟩) id))))))))))))
theorem zcable_12 {no nc : Nat} {x1 x2 x3 x4 : Int32} (hx : zx_cable no nc x1 x2 x3 x4 = 0) : nc ≠ 12 := by
  unfold zx_cable at hx
  by_cases q1 : zin x1 no = true ∧ zin x2 no = true
  · rw [if_neg (fun q => q q1)] at hx
    by_cases q2 : x1 = x2 ∨ (x3 < 1 ∨ 100 < x3) ∨ (x4 < 1 ∨ 20 < x4)
    · rw [if_pos q2] at hx; exact absurd hx (by decide)
    rw [if_neg q2] at hx
    intro q3
    rw [if_pos q3] at hx; exact absurd hx (by decide)
  · rw [if_pos q1] at hx; exact absurd hx (by decide)
theorem zSt_same {g : zSh} {σ κ σ' κ' : zIn} {n n' : Nat → Nat} (h : zSt g σ κ n) (e3 : n' 3 = n 3) (e4 : n' 4 = n 4) (e5 : n' 5 = n 5) (e6 : n' 6 = n 6) (eL : ∀ m, n' (100 + m) = n (100 + m) ∧ n' (200 + m) = n (200 + m)) (hag : zFr (inP n) κ' σ') (hv : zIv κ' n') : zSt g σ' κ' n' := by
  refine ⟨?_, fun m hm => ?_, fun i k hp => hag i k (inP_n e3 e4 e5 e6 eL hp), hv⟩
  · rw [e3, e4, e5, e6]; exact h.1
  · rw [(eL m).1, (eL m).2]; exact h.2.1 m (by omega)
section
variable {g : zSh} {σ κ : zIn} {n : Nat → Nat}
theorem zIM_x {σ τ : zIn} {n : Nat → Nat} (hn : n 4 ≤ 12) (h : zFr (fun i k => inM i k ∧ i ≠ 120 + n 4) σ τ) (H : zIM σ n) : zIM τ n := by
  obtain ⟨⟨a1, a2⟩, b⟩ := H
  refine ⟨⟨by rw [h 1 8 (by unfold inM; omega)]; exact a1, a2⟩, fun m hm => ?_⟩
  obtain ⟨b1, b2, b3, b4⟩ := b m hm
  exact ⟨zIm_e (fun k _ => h _ _ (by unfold inM; omega)) b1, zIr_e (h _ _ (by unfold inM; omega)) (h _ _ (by unfold inM; omega)) (h _ _ (by unfold inM; omega)) (fun k _ => h _ _ (by unfold inM; omega)) (fun c hc => h _ _ (by unfold inM; omega)) b2, zIw_e (fun k _ => h _ _ (by unfold inM; omega)) (fun k _ => h _ _ (by unfold inM; omega)) b3, zIq_e (fun k _ _ => h _ _ (by unfold inM; omega)) b4⟩
theorem zIF_x {σ τ : zIn} {n : Nat → Nat} (hn3 : n 3 ≤ 8) (hn : n 4 ≤ 12) (hM : zIM σ n) (h : zFr (fun i k => inF i k ∧ i ≠ 120 + n 4 ∧ i ≠ 100 + n 3) σ τ) (H : zIF σ n) : zIF τ n := by
  intro o ho
  have h60 := hM.1.2
  rw [h _ _ (by unfold inF; omega), zbal_e hM (fun m hm k hk => h _ _ (by unfold inF; omega)) (fun m hm k hk => h _ _ (by unfold inF; omega)) (fun c hc => ⟨h _ _ (by unfold inF; omega), h _ _ (by unfold inF; omega)⟩)]
  exact H o ho
theorem zst_idea {x : Int32} (h : zSt g σ κ n) (hx : zx_idea (n 0) x = 0) : zSt g (z_up (z_up σ 3 (n 0) x) 2 4 (nI (n 0 + 1))) (z_up (z_up κ 3 (n 0) x) 2 4 (nI (n 0 + 1))) (zud n 0 (n 0 + 1)) := by
  have hn4 : n 4 ≤ 12 := h.B.1.2.2.2
  have hn3 : n 3 ≤ 8 := h.B.1.2.1
  have hn5 : n 5 ≤ 12 := h.K.1.2.1
  have hn6 : n 6 ≤ 60 := h.M.1.2
  refine zSt_same h (zud_ne (show ¬ 3 = 0 by decide)) (zud_ne (show ¬ 4 = 0 by decide)) (zud_ne (show ¬ 5 = 0 by decide)) (zud_ne (show ¬ 6 = 0 by decide)) (fun m => ⟨zud_ne (by omega), zud_ne (by omega)⟩) (zAg_up (zAg_up h.2.2.1)) ⟨?_, ?_, ?_, ?_, ?_⟩
  · rw [zud_eq, zud_ne (show ¬ 1 = 0 by decide), zud_ne (show ¬ 2 = 0 by decide)]
    exact zIA_idea h.A hx (by funext k; simp [z_up, upd]) (by simp [z_up]) (by
      repeat (refine zFr_up (by rintro ⟨hq, hq2⟩; unfold inA at hq; omega) ?_)
      exact zFr_rf)
  · rw [zud_ne (show ¬ 3 = 0 by decide), zud_ne (show ¬ 4 = 0 by decide)]
    exact zIB_e (by
      repeat (refine zFr_up (by intro hq; unfold inB at hq; omega) ?_)
      exact zFr_rf) h.B
  · rw [zud_ne (show ¬ 5 = 0 by decide), zud_ne (show ¬ 7 = 0 by decide)]
    exact zIC_e (by
      repeat (refine zFr_up (by intro hq; unfold inC at hq; omega) ?_)
      exact zFr_rf) h.K
  · exact zIM_n (n := n) (Nat.le_of_eq (zud_ne (show ¬ 3 = 0 by decide)).symm) (Nat.le_of_eq (zud_ne (show ¬ 4 = 0 by decide)).symm) (zud_ne (show ¬ 6 = 0 by decide)) (fun m _ => ⟨zud_ne (by omega), zud_ne (by omega)⟩) (zIM_e hn4 (by
      repeat (refine zFr_up (by intro hq; unfold inM at hq; omega) ?_)
      exact zFr_rf) h.M)
  · exact zIF_n (n := n) (zud_ne (show ¬ 3 = 0 by decide)) (zud_ne (show ¬ 6 = 0 by decide)) (fun m _ => zud_ne (by omega)) (zIF_e hn3 hn4 h.M (by
      repeat (refine zFr_up (by intro hq; unfold inF at hq; omega) ?_)
      exact zFr_rf) h.F)
theorem zst_draft {x : Int32} (h : zSt g σ κ n) (hx : zx_draft (n 0) (n 2) x = 0) : zSt g (z_up (z_up σ 12 (n 2) x) 11 1 (nI (n 2 + 1))) (z_up (z_up κ 12 (n 2) x) 11 1 (nI (n 2 + 1))) (zud n 2 (n 2 + 1)) := by
  have hn4 : n 4 ≤ 12 := h.B.1.2.2.2
  have hn3 : n 3 ≤ 8 := h.B.1.2.1
  have hn5 : n 5 ≤ 12 := h.K.1.2.1
  have hn6 : n 6 ≤ 60 := h.M.1.2
  refine zSt_same h (zud_ne (show ¬ 3 = 2 by decide)) (zud_ne (show ¬ 4 = 2 by decide)) (zud_ne (show ¬ 5 = 2 by decide)) (zud_ne (show ¬ 6 = 2 by decide)) (fun m => ⟨zud_ne (by omega), zud_ne (by omega)⟩) (zAg_up (zAg_up h.2.2.1)) ⟨?_, ?_, ?_, ?_, ?_⟩
  · rw [zud_ne (show ¬ 0 = 2 by decide), zud_ne (show ¬ 1 = 2 by decide), zud_eq]
    exact zIA_draft h.A hx (by funext k; simp [z_up, upd]) (by simp [z_up]) (by
      repeat (refine zFr_up (by rintro ⟨hq, hq2⟩; unfold inA at hq; omega) ?_)
      exact zFr_rf)
  · rw [zud_ne (show ¬ 3 = 2 by decide), zud_ne (show ¬ 4 = 2 by decide)]
    exact zIB_e (by
      repeat (refine zFr_up (by intro hq; unfold inB at hq; omega) ?_)
      exact zFr_rf) h.B
  · rw [zud_ne (show ¬ 5 = 2 by decide), zud_ne (show ¬ 7 = 2 by decide)]
    exact zIC_e (by
      repeat (refine zFr_up (by intro hq; unfold inC at hq; omega) ?_)
      exact zFr_rf) h.K
  · exact zIM_n (n := n) (Nat.le_of_eq (zud_ne (show ¬ 3 = 2 by decide)).symm) (Nat.le_of_eq (zud_ne (show ¬ 4 = 2 by decide)).symm) (zud_ne (show ¬ 6 = 2 by decide)) (fun m _ => ⟨zud_ne (by omega), zud_ne (by omega)⟩) (zIM_e hn4 (by
      repeat (refine zFr_up (by intro hq; unfold inM at hq; omega) ?_)
      exact zFr_rf) h.M)
  · exact zIF_n (n := n) (zud_ne (show ¬ 3 = 2 by decide)) (zud_ne (show ¬ 6 = 2 by decide)) (fun m _ => zud_ne (by omega)) (zIF_e hn3 hn4 h.M (by
      repeat (refine zFr_up (by intro hq; unfold inF at hq; omega) ?_)
      exact zFr_rf) h.F)
theorem zst_entry {w a b c d : Int32} (h : zSt g σ κ n) (hx : zx_entry κ (n 0) (n 1) w a b c d = 0) : zSt g (z_up (z_up (z_up (z_up (z_up (z_up σ 4 (n 1) w) 5 (n 1 * 4) a) 5 (n 1 * 4 + 1) b) 5 (n 1 * 4 + 2) c) 5 (n 1 * 4 + 3) d) 2 5 (nI (n 1 + 1))) (z_up (z_up (z_up (z_up (z_up (z_up κ 4 (n 1) w) 5 (n 1 * 4) a) 5 (n 1 * 4 + 1) b) 5 (n 1 * 4 + 2) c) 5 (n 1 * 4 + 3) d) 2 5 (nI (n 1 + 1))) (zud n 1 (n 1 + 1)) := by
  have hn4 : n 4 ≤ 12 := h.B.1.2.2.2
  have hn3 : n 3 ≤ 8 := h.B.1.2.1
  have hn5 : n 5 ≤ 12 := h.K.1.2.1
  have hn6 : n 6 ≤ 60 := h.M.1.2
  refine zSt_same h (zud_ne (show ¬ 3 = 1 by decide)) (zud_ne (show ¬ 4 = 1 by decide)) (zud_ne (show ¬ 5 = 1 by decide)) (zud_ne (show ¬ 6 = 1 by decide)) (fun m => ⟨zud_ne (by omega), zud_ne (by omega)⟩) (zAg_up (zAg_up (zAg_up (zAg_up (zAg_up (zAg_up h.2.2.1)))))) ⟨?_, ?_, ?_, ?_, ?_⟩
  · rw [zud_ne (show ¬ 0 = 1 by decide), zud_eq, zud_ne (show ¬ 2 = 1 by decide)]
    exact zIA_entry h.A hx (by funext k; simp [z_up, upd]) (by funext k; simp [z_up, upd, Nat.mul_comm 4 (n 1)]) (by simp [z_up]) (by
      repeat (refine zFr_up (by rintro ⟨hq, hq2⟩; unfold inA at hq; omega) ?_)
      exact zFr_rf)
  · rw [zud_ne (show ¬ 3 = 1 by decide), zud_ne (show ¬ 4 = 1 by decide)]
    exact zIB_e (by
      repeat (refine zFr_up (by intro hq; unfold inB at hq; omega) ?_)
      exact zFr_rf) h.B
  · rw [zud_ne (show ¬ 5 = 1 by decide), zud_ne (show ¬ 7 = 1 by decide)]
    exact zIC_e (by
      repeat (refine zFr_up (by intro hq; unfold inC at hq; omega) ?_)
      exact zFr_rf) h.K
  · exact zIM_n (n := n) (Nat.le_of_eq (zud_ne (show ¬ 3 = 1 by decide)).symm) (Nat.le_of_eq (zud_ne (show ¬ 4 = 1 by decide)).symm) (zud_ne (show ¬ 6 = 1 by decide)) (fun m _ => ⟨zud_ne (by omega), zud_ne (by omega)⟩) (zIM_e hn4 (by
      repeat (refine zFr_up (by intro hq; unfold inM at hq; omega) ?_)
      exact zFr_rf) h.M)
  · exact zIF_n (n := n) (zud_ne (show ¬ 3 = 1 by decide)) (zud_ne (show ¬ 6 = 1 by decide)) (fun m _ => zud_ne (by omega)) (zIF_e hn3 hn4 h.M (by
      repeat (refine zFr_up (by intro hq; unfold inF at hq; omega) ?_)
      exact zFr_rf) h.F)
theorem zst_broken {c : Nat} {y : Int32} (h : zSt g σ κ n) (hc : c < n 4) (hy : y = 0 ∨ y = 1) : zSt g (z_up σ (120 + c) 4 y) (z_up κ (120 + c) 4 y) n := by
  have hn4 : n 4 ≤ 12 := h.B.1.2.2.2
  have hn3 : n 3 ≤ 8 := h.B.1.2.1
  have hn5 : n 5 ≤ 12 := h.K.1.2.1
  have hn6 : n 6 ≤ 60 := h.M.1.2
  refine zSt_same h (rfl) (rfl) (rfl) (rfl) (fun m => ⟨rfl, rfl⟩) (zAg_up h.2.2.1) ⟨?_, ?_, ?_, ?_, ?_⟩
  · exact zIA_e (by
      repeat (refine zFr_up (by intro hq; unfold inA at hq; omega) ?_)
      exact zFr_rf) h.A
  · exact zIB_broken h.B hc hy (by simp [z_up]) (by
      repeat (refine zFr_up (by rintro ⟨hq, hq2⟩; unfold inB at hq; omega) ?_)
      exact zFr_rf)
  · exact zIC_e (by
      repeat (refine zFr_up (by intro hq; unfold inC at hq; omega) ?_)
      exact zFr_rf) h.K
  · exact (zIM_e hn4 (by
      repeat (refine zFr_up (by intro hq; unfold inM at hq; omega) ?_)
      exact zFr_rf) h.M)
  · exact (zIF_e hn3 hn4 h.M (by
      repeat (refine zFr_up (by intro hq; unfold inF at hq; omega) ?_)
      exact zFr_rf) h.F)
theorem zst_forbid {o : Nat} {y : Int32} (h : zSt g σ κ n) (ho : o < n 3) (hy : y = 0 ∨ y = 1) : zSt g (z_up σ (100 + o) 2 y) (z_up κ (100 + o) 2 y) n := by
  have hn4 : n 4 ≤ 12 := h.B.1.2.2.2
  have hn3 : n 3 ≤ 8 := h.B.1.2.1
  have hn5 : n 5 ≤ 12 := h.K.1.2.1
  have hn6 : n 6 ≤ 60 := h.M.1.2
  refine zSt_same h (rfl) (rfl) (rfl) (rfl) (fun m => ⟨rfl, rfl⟩) (zAg_up h.2.2.1) ⟨?_, ?_, ?_, ?_, ?_⟩
  · exact zIA_e (by
      repeat (refine zFr_up (by intro hq; unfold inA at hq; omega) ?_)
      exact zFr_rf) h.A
  · exact zIB_forbid h.B ho hy (by simp [z_up]) (by
      repeat (refine zFr_up (by rintro ⟨hq, hq2⟩; unfold inB at hq; omega) ?_)
      exact zFr_rf)
  · exact zIC_e (by
      repeat (refine zFr_up (by intro hq; unfold inC at hq; omega) ?_)
      exact zFr_rf) h.K
  · exact (zIM_e hn4 (by
      repeat (refine zFr_up (by intro hq; unfold inM at hq; omega) ?_)
      exact zFr_rf) h.M)
  · exact (zIF_e hn3 hn4 h.M (by
      repeat (refine zFr_up (by intro hq; unfold inF at hq; omega) ?_)
      exact zFr_rf) h.F)
theorem zst_key {o : Nat} {y : Int32} (h : zSt g σ κ n) (ho : o < n 3) (hy : y = nI (zn y) ∧ zn y ≤ 39) : zSt g (z_up σ (100 + o) 1 y) (z_up κ (100 + o) 1 y) n := by
  have hn4 : n 4 ≤ 12 := h.B.1.2.2.2
  have hn3 : n 3 ≤ 8 := h.B.1.2.1
  have hn5 : n 5 ≤ 12 := h.K.1.2.1
  have hn6 : n 6 ≤ 60 := h.M.1.2
  refine zSt_same h (rfl) (rfl) (rfl) (rfl) (fun m => ⟨rfl, rfl⟩) (zAg_up h.2.2.1) ⟨?_, ?_, ?_, ?_, ?_⟩
  · exact zIA_e (by
      repeat (refine zFr_up (by intro hq; unfold inA at hq; omega) ?_)
      exact zFr_rf) h.A
  · exact zIB_key h.B ho hy (by simp [z_up]) (by
      repeat (refine zFr_up (by rintro ⟨hq, hq2⟩; unfold inB at hq; omega) ?_)
      exact zFr_rf)
  · exact zIC_e (by
      repeat (refine zFr_up (by intro hq; unfold inC at hq; omega) ?_)
      exact zFr_rf) h.K
  · exact (zIM_e hn4 (by
      repeat (refine zFr_up (by intro hq; unfold inM at hq; omega) ?_)
      exact zFr_rf) h.M)
  · exact (zIF_e hn3 hn4 h.M (by
      repeat (refine zFr_up (by intro hq; unfold inF at hq; omega) ?_)
      exact zFr_rf) h.F)
theorem zst_rest {mi2 : Nat} (h : zSt g σ κ n) (hx : mi2 ≤ 1000000) : zSt g (z_up σ 1 9 (nI mi2)) (z_up κ 1 9 (nI mi2)) (zud n 7 mi2) := by
  have hn4 : n 4 ≤ 12 := h.B.1.2.2.2
  have hn3 : n 3 ≤ 8 := h.B.1.2.1
  have hn5 : n 5 ≤ 12 := h.K.1.2.1
  have hn6 : n 6 ≤ 60 := h.M.1.2
  refine zSt_same h (zud_ne (show ¬ 3 = 7 by decide)) (zud_ne (show ¬ 4 = 7 by decide)) (zud_ne (show ¬ 5 = 7 by decide)) (zud_ne (show ¬ 6 = 7 by decide)) (fun m => ⟨zud_ne (by omega), zud_ne (by omega)⟩) (zAg_up h.2.2.1) ⟨?_, ?_, ?_, ?_, ?_⟩
  · rw [zud_ne (show ¬ 0 = 7 by decide), zud_ne (show ¬ 1 = 7 by decide), zud_ne (show ¬ 2 = 7 by decide)]
    exact zIA_e (by
      repeat (refine zFr_up (by intro hq; unfold inA at hq; omega) ?_)
      exact zFr_rf) h.A
  · rw [zud_ne (show ¬ 3 = 7 by decide), zud_ne (show ¬ 4 = 7 by decide)]
    exact zIB_e (by
      repeat (refine zFr_up (by intro hq; unfold inB at hq; omega) ?_)
      exact zFr_rf) h.B
  · rw [zud_ne (show ¬ 5 = 7 by decide), zud_eq]
    exact zIC_minute h.K hx (by simp [z_up]) (by
      repeat (refine zFr_up (by rintro ⟨hq, hq2⟩; unfold inC at hq; omega) ?_)
      exact zFr_rf)
  · exact zIM_n (n := n) (Nat.le_of_eq (zud_ne (show ¬ 3 = 7 by decide)).symm) (Nat.le_of_eq (zud_ne (show ¬ 4 = 7 by decide)).symm) (zud_ne (show ¬ 6 = 7 by decide)) (fun m _ => ⟨zud_ne (by omega), zud_ne (by omega)⟩) (zIM_e hn4 (by
      repeat (refine zFr_up (by intro hq; unfold inM at hq; omega) ?_)
      exact zFr_rf) h.M)
  · exact zIF_n (n := n) (zud_ne (show ¬ 3 = 7 by decide)) (zud_ne (show ¬ 6 = 7 by decide)) (fun m _ => zud_ne (by omega)) (zIF_e hn3 hn4 h.M (by
      repeat (refine zFr_up (by intro hq; unfold inF at hq; omega) ?_)
      exact zFr_rf) h.F)
theorem zst_reserve {o k : Nat} (h : zSt g σ κ n) (ho : o < n 3) : zSt g (z_up σ (110 + o) k 1) (z_up κ (110 + o) k 1) n := by
  have hn4 : n 4 ≤ 12 := h.B.1.2.2.2
  have hn3 : n 3 ≤ 8 := h.B.1.2.1
  have hn5 : n 5 ≤ 12 := h.K.1.2.1
  have hn6 : n 6 ≤ 60 := h.M.1.2
  refine zSt_same h (rfl) (rfl) (rfl) (rfl) (fun m => ⟨rfl, rfl⟩) (zAg_up h.2.2.1) ⟨?_, ?_, ?_, ?_, ?_⟩
  · exact zIA_e (by
      repeat (refine zFr_up (by intro hq; unfold inA at hq; omega) ?_)
      exact zFr_rf) h.A
  · exact zIB_e (by
      repeat (refine zFr_up (by intro hq; unfold inB at hq; omega) ?_)
      exact zFr_rf) h.B
  · exact zIC_e (by
      repeat (refine zFr_up (by intro hq; unfold inC at hq; omega) ?_)
      exact zFr_rf) h.K
  · exact (zIM_e hn4 (by
      repeat (refine zFr_up (by intro hq; unfold inM at hq; omega) ?_)
      exact zFr_rf) h.M)
  · exact (zIF_e hn3 hn4 h.M (by
      repeat (refine zFr_up (by intro hq; unfold inF at hq; omega) ?_)
      exact zFr_rf) h.F)
theorem zst_wrong {m9 k q t W : Nat} (h : zSt g σ κ n) (hm : m9 < n 6) (hk : k < n (100 + m9)) (hq : q < 5) (ht : t < 26) (hW : W < 2 ^ 31) (hw : κ (400 + m9) k = nI W) :
    zSt g (z_up σ (400 + m9) k (nI W + (nI t - nI (zl (nI W) q)) * nI (26 ^ (4 - q)))) (z_up κ (400 + m9) k (nI W + (nI t - nI (zl (nI W) q)) * nI (26 ^ (4 - q)))) n := by
  have hn4 : n 4 ≤ 12 := h.B.1.2.2.2
  have hn3 : n 3 ≤ 8 := h.B.1.2.1
  have hn5 : n 5 ≤ 12 := h.K.1.2.1
  have hn6 : n 6 ≤ 60 := h.M.1.2
  refine zSt_same h rfl rfl rfl rfl (fun m => ⟨rfl, rfl⟩) (zAg_up h.2.2.1) ⟨?_, ?_, ?_, ?_, ?_⟩
  · exact zIA_e (by
      repeat (refine zFr_up (by intro hq; unfold inA at hq; omega) ?_)
      exact zFr_rf) h.A
  · exact zIB_e (by
      repeat (refine zFr_up (by intro hq; unfold inB at hq; omega) ?_)
      exact zFr_rf) h.B
  · exact zIC_e (by
      repeat (refine zFr_up (by intro hq; unfold inC at hq; omega) ?_)
      exact zFr_rf) h.K
  · obtain ⟨⟨a1, a2⟩, b⟩ := h.M
    have e : ∀ i, i ≠ 400 + m9 → z_up κ (400 + m9) k (nI W + (nI t - nI (zl (nI W) q)) * nI (26 ^ (4 - q))) i = κ i := fun i hi => z_up_ne hi
    refine ⟨⟨by rw [e _ (by omega)]; exact a1, a2⟩, fun m hm2 => ?_⟩
    obtain ⟨b1, b2, b3, b4⟩ := b m hm2
    refine ⟨zIm_e (fun _ _ => by rw [e _ (by omega)]) b1, zIr_e (by rw [e _ (by omega)]) (by rw [e _ (by omega)]) (by rw [e _ (by omega)]) (fun _ _ => by rw [e _ (by omega)]) (fun c hc => by rw [e _ (by omega)]) b2, ?_, zIq_e (fun _ _ _ => by rw [e _ (by omega)]) b4⟩
    refine ⟨b3.1, b3.2.1, fun j hj => ?_⟩
    rw [e (300 + m) (by omega)]
    have h3 := b3.2.2 j hj
    by_cases e1 : m = m9
    · subst e1
      by_cases e2 : j = k
      · subst e2
        rw [hw] at h3
        have hz : zwd (κ (300 + m) j) ∧ zwd (nI W) := by
          rcases h3 with r | ⟨r1, r2⟩
          · exact r
          · rw [← r2] at r1; exact absurd r1 (nI_not_neg hW)
        rw [z_up_app, if_pos rfl, if_pos rfl]
        exact Or.inl ⟨hz.1, zwd_with hz.2 hW hq ht⟩
      · rw [z_up_app, if_pos rfl, if_neg e2]; exact h3
    · rw [e (400 + m) (by omega)]; exact h3
  · exact zIF_e hn3 hn4 h.M (by
      repeat (refine zFr_up (by intro hq; unfold inF at hq; omega) ?_)
      exact zFr_rf) h.F
theorem zst_office {a b : Nat} (h : zSt g σ κ n) (hx : zx_office (n 3) = 0) : zSt (z_gr (z_gr (z_add (z_add g (100 + n 3) a 5 0) (110 + n 3) b 11 13) (100 + n 3) 0 (110 + n 3)) 14 (n 3) (100 + n 3)) (z_up (z_up (z_up (z_up (z_zero (z_zero σ (100 + n 3)) (110 + n 3)) (100 + n 3) 1 0) (100 + n 3) 2 0) (100 + n 3) 3 0) 13 4 (nI (n 3 + 1))) (z_up (z_up (z_up (z_up (z_zero (z_zero κ (100 + n 3)) (110 + n 3)) (100 + n 3) 1 0) (100 + n 3) 2 0) (100 + n 3) 3 0) 13 4 (nI (n 3 + 1))) (zud n 3 (n 3 + 1)) := by
  have hn4 : n 4 ≤ 12 := h.B.1.2.2.2
  have hn3 : n 3 ≤ 8 := h.B.1.2.1
  have hn5 : n 5 ≤ 12 := h.K.1.2.1
  have hn6 : n 6 ≤ 60 := h.M.1.2
  have q8 : n 3 ≠ 8 := fun q => by unfold zx_office at hx; rw [if_pos q] at hx; exact absurd hx (by decide)
  have hsp := zSP_office (a := a) (b := b) h.1 (by omega)
  refine ⟨by rw [zud_eq, zud_ne (show ¬ 4 = 3 by decide), zud_ne (show ¬ 5 = 3 by decide), zud_ne (show ¬ 6 = 3 by decide)]; exact hsp.1, fun m hm => ?_, fun i k hp => (zAg_up (zAg_up (zAg_up (zAg_up (zAg_ze (zAg_ze h.2.2.1)))))) i k ?_, ?_, ?_, ?_, ?_, ?_⟩
  · rw [zud_ne (show ¬ 6 = 3 by decide)] at hm
    rw [zud_ne (show ¬ 100 + m = 3 by omega), zud_ne (show ¬ 200 + m = 3 by omega)]
    have := h.2.1 m hm
    unfold zln3 zln5 at *
    rw [(hsp.2 m hm).1, (hsp.2 m hm).2]; exact this
  · by_cases e0 : i = (110 + n 3)
    · exact Or.inr e0
    by_cases e1 : i = (100 + n 3)
    · exact Or.inl (Or.inr e1)
    refine Or.inl (Or.inl (inP_w ?_ ?_ ?_ ?_ ?_ ?_ hp))
    · rw [zud_eq]; omega
    · rw [zud_eq]; omega
    · rw [zud_ne (show ¬ 4 = 3 by decide)]; omega
    · rw [zud_ne (show ¬ 5 = 3 by decide)]; omega
    · exact zud_ne (show ¬ 6 = 3 by decide)
    · exact fun m => ⟨zud_ne (by omega), zud_ne (by omega)⟩
  · rw [zud_ne (show ¬ 0 = 3 by decide), zud_ne (show ¬ 1 = 3 by decide), zud_ne (show ¬ 2 = 3 by decide)]
    exact zIA_e (by
      repeat (refine zFr_up (by intro hq; unfold inA at hq; omega) ?_)
      repeat (refine zFr_ze (by intro k hq; unfold inA at hq; omega) ?_)
      exact zFr_rf) h.A
  · rw [zud_eq, zud_ne (show ¬ 4 = 3 by decide)]
    exact zIB_office h.B hx (by simp [z_up]) (by simp [z_up]) (by simp [z_up]) (by
      repeat (refine zFr_up (by rintro ⟨hq, hq2⟩; unfold inB at hq; omega) ?_)
      repeat (refine zFr_ze (by rintro k ⟨hq, hq2⟩; unfold inB at hq; omega) ?_)
      exact zFr_rf)
  · rw [zud_ne (show ¬ 5 = 3 by decide), zud_ne (show ¬ 7 = 3 by decide)]
    exact zIC_e (by
      repeat (refine zFr_up (by intro hq; unfold inC at hq; omega) ?_)
      repeat (refine zFr_ze (by intro k hq; unfold inC at hq; omega) ?_)
      exact zFr_rf) h.K
  · refine zIM_n (n := n) ?_ ?_ (zud_ne (show ¬ 6 = 3 by decide)) (fun m _ => ⟨zud_ne (by omega), zud_ne (by omega)⟩) (zIM_x hn4 (by
      repeat (refine zFr_up (by rintro ⟨hq, hq2⟩; unfold inM at hq; omega) ?_)
      repeat (refine zFr_ze (by rintro k ⟨hq, hq2⟩; unfold inM at hq; omega) ?_)
      exact zFr_rf) h.M)
    · rw [zud_eq]; omega
    · rw [zud_ne (show ¬ 4 = 3 by decide)]; omega
  · intro o ho
    rw [zud_eq] at ho
    rw [zbal_n (n := n) (zud_ne (show ¬ 6 = 3 by decide)) (fun m _ => zud_ne (by omega))]
    by_cases q : o = n 3
    · subst q
      have hM2 := zIM_x (τ := (z_up (z_up (z_up (z_up (z_zero (z_zero κ (100 + n 3)) (110 + n 3)) (100 + n 3) 1 0) (100 + n 3) 2 0) (100 + n 3) 3 0) 13 4 (nI (n 3 + 1)))) hn4 (by
      repeat (refine zFr_up (by rintro ⟨hq, hq2⟩; unfold inM at hq; omega) ?_)
      repeat (refine zFr_ze (by rintro k ⟨hq, hq2⟩; unfold inM at hq; omega) ?_)
      exact zFr_rf) h.M
      have hB2 := h.B.2.2
      rw [zbal_0 hM2 (fun c hc => ?_) (Nat.le_refl _)]
      · simp [z_up]
      · have e : ∀ k, (z_up (z_up (z_up (z_up (z_zero (z_zero κ (100 + n 3)) (110 + n 3)) (100 + n 3) 1 0) (100 + n 3) 2 0) (100 + n 3) 3 0) 13 4 (nI (n 3 + 1))) (120 + c) k = κ (120 + c) k := fun k => by
          rw [z_up_ne (by omega), z_up_ne (by omega), z_up_ne (by omega), z_up_ne (by omega), z_zero_ne (by omega), z_zero_ne (by omega)]
        unfold zad
        rw [e]; exact (hB2 c hc).2.1
    · exact zIF_x hn3 hn4 h.M (by
      repeat (refine zFr_up (by rintro ⟨hq, hq2⟩; unfold inF at hq; omega) ?_)
      repeat (refine zFr_ze (by rintro k ⟨hq, hq2⟩; unfold inF at hq; omega) ?_)
      exact zFr_rf) h.F o (by omega)
theorem zst_cable {a : Nat} {x1 x2 x3 x4 : Int32} (h : zSt g σ κ n) (hx : zx_cable (n 3) (n 4) x1 x2 x3 x4 = 0) : zSt (z_gr (z_add g (120 + n 4) a 1 0) 15 (n 4) (120 + n 4)) (z_up (z_up (z_up (z_up (z_up (z_up (z_up (z_zero σ (120 + n 4)) (120 + n 4) 0 x1) (120 + n 4) 1 x2) (120 + n 4) 2 x3) (120 + n 4) 3 x4) (120 + n 4) 4 0) (120 + n 4) 5 0) 13 5 (nI (n 4 + 1))) (z_up (z_up (z_up (z_up (z_up (z_up (z_up (z_zero κ (120 + n 4)) (120 + n 4) 0 x1) (120 + n 4) 1 x2) (120 + n 4) 2 x3) (120 + n 4) 3 x4) (120 + n 4) 4 0) (120 + n 4) 5 0) 13 5 (nI (n 4 + 1))) (zud n 4 (n 4 + 1)) := by
  have hn4 : n 4 ≤ 12 := h.B.1.2.2.2
  have hn3 : n 3 ≤ 8 := h.B.1.2.1
  have hn5 : n 5 ≤ 12 := h.K.1.2.1
  have hn6 : n 6 ≤ 60 := h.M.1.2
  have q12 : n 4 ≠ 12 := zcable_12 hx
  have hsp := zSP_cable (a := a) h.1 (by omega)
  refine ⟨by rw [zud_ne (show ¬ 3 = 4 by decide), zud_eq, zud_ne (show ¬ 5 = 4 by decide), zud_ne (show ¬ 6 = 4 by decide)]; exact hsp.1, fun m hm => ?_, fun i k hp => (zAg_up (zAg_up (zAg_up (zAg_up (zAg_up (zAg_up (zAg_up (zAg_ze h.2.2.1)))))))) i k ?_, ?_, ?_, ?_, ?_, ?_⟩
  · rw [zud_ne (show ¬ 6 = 4 by decide)] at hm
    rw [zud_ne (show ¬ 100 + m = 4 by omega), zud_ne (show ¬ 200 + m = 4 by omega)]
    have := h.2.1 m hm
    unfold zln3 zln5 at *
    rw [(hsp.2 m hm).1, (hsp.2 m hm).2]; exact this
  · by_cases e0 : i = (120 + n 4)
    · exact Or.inr e0
    refine Or.inl (inP_w ?_ ?_ ?_ ?_ ?_ ?_ hp)
    · rw [zud_ne (show ¬ 3 = 4 by decide)]; omega
    · rw [zud_ne (show ¬ 3 = 4 by decide)]; omega
    · rw [zud_eq]; omega
    · rw [zud_ne (show ¬ 5 = 4 by decide)]; omega
    · exact zud_ne (show ¬ 6 = 4 by decide)
    · exact fun m => ⟨zud_ne (by omega), zud_ne (by omega)⟩
  · rw [zud_ne (show ¬ 0 = 4 by decide), zud_ne (show ¬ 1 = 4 by decide), zud_ne (show ¬ 2 = 4 by decide)]
    exact zIA_e (by
      repeat (refine zFr_up (by intro hq; unfold inA at hq; omega) ?_)
      repeat (refine zFr_ze (by intro k hq; unfold inA at hq; omega) ?_)
      exact zFr_rf) h.A
  · rw [zud_ne (show ¬ 3 = 4 by decide), zud_eq]
    exact zIB_cable h.B hx (by simp [z_up]) (by simp [z_up]) (by simp [z_up]) (by simp [z_up]) (by simp [z_up]) (by simp [z_up]) (by
      repeat (refine zFr_up (by rintro ⟨hq, hq2⟩; unfold inB at hq; omega) ?_)
      repeat (refine zFr_ze (by rintro k ⟨hq, hq2⟩; unfold inB at hq; omega) ?_)
      exact zFr_rf)
  · rw [zud_ne (show ¬ 5 = 4 by decide), zud_ne (show ¬ 7 = 4 by decide)]
    exact zIC_e (by
      repeat (refine zFr_up (by intro hq; unfold inC at hq; omega) ?_)
      repeat (refine zFr_ze (by intro k hq; unfold inC at hq; omega) ?_)
      exact zFr_rf) h.K
  · refine zIM_n (n := n) ?_ ?_ (zud_ne (show ¬ 6 = 4 by decide)) (fun m _ => ⟨zud_ne (by omega), zud_ne (by omega)⟩) (zIM_x hn4 (by
      repeat (refine zFr_up (by rintro ⟨hq, hq2⟩; unfold inM at hq; omega) ?_)
      repeat (refine zFr_ze (by rintro k ⟨hq, hq2⟩; unfold inM at hq; omega) ?_)
      exact zFr_rf) h.M)
    · rw [zud_ne (show ¬ 3 = 4 by decide)]; omega
    · rw [zud_eq]; omega
  · exact zIF_n (n := n) (zud_ne (show ¬ 3 = 4 by decide)) (zud_ne (show ¬ 6 = 4 by decide)) (fun m _ => zud_ne (by omega)) (zIF_x hn3 hn4 h.M (by
      repeat (refine zFr_up (by rintro ⟨hq, hq2⟩; unfold inF at hq; omega) ?_)
      repeat (refine zFr_ze (by rintro k ⟨hq, hq2⟩; unfold inF at hq; omega) ?_)
      exact zFr_rf) h.F)
theorem zst_conf {a : Nat} {x1 x2 x3 x4 : Int32} (h : zSt g σ κ n) (hx : zx_conf (n 5) x1 x2 x3 x4 = 0) : zSt (z_gr (z_add g (140 + n 5) a 7 0) 19 (n 5) (140 + n 5)) (z_up (z_up (z_up (z_up (z_up (z_up (z_zero σ (140 + n 5)) (140 + n 5) 0 (nI (n 5 + 1))) (140 + n 5) 1 x1) (140 + n 5) 2 x2) (140 + n 5) 3 x3) (140 + n 5) 4 x4) 1 7 (nI (n 5 + 1))) (z_up (z_up (z_up (z_up (z_up (z_up (z_zero κ (140 + n 5)) (140 + n 5) 0 (nI (n 5 + 1))) (140 + n 5) 1 x1) (140 + n 5) 2 x2) (140 + n 5) 3 x3) (140 + n 5) 4 x4) 1 7 (nI (n 5 + 1))) (zud n 5 (n 5 + 1)) := by
  have hn4 : n 4 ≤ 12 := h.B.1.2.2.2
  have hn3 : n 3 ≤ 8 := h.B.1.2.1
  have hn5 : n 5 ≤ 12 := h.K.1.2.1
  have hn6 : n 6 ≤ 60 := h.M.1.2
  have q12 : n 5 ≠ 12 := (zconf_ok hx).1
  have hsp := zSP_conf (a := a) h.1 (by omega)
  refine ⟨by rw [zud_ne (show ¬ 3 = 5 by decide), zud_ne (show ¬ 4 = 5 by decide), zud_eq, zud_ne (show ¬ 6 = 5 by decide)]; exact hsp.1, fun m hm => ?_, fun i k hp => (zAg_up (zAg_up (zAg_up (zAg_up (zAg_up (zAg_up (zAg_ze h.2.2.1))))))) i k ?_, ?_, ?_, ?_, ?_, ?_⟩
  · rw [zud_ne (show ¬ 6 = 5 by decide)] at hm
    rw [zud_ne (show ¬ 100 + m = 5 by omega), zud_ne (show ¬ 200 + m = 5 by omega)]
    have := h.2.1 m hm
    unfold zln3 zln5 at *
    rw [(hsp.2 m hm).1, (hsp.2 m hm).2]; exact this
  · by_cases e0 : i = (140 + n 5)
    · exact Or.inr e0
    refine Or.inl (inP_w ?_ ?_ ?_ ?_ ?_ ?_ hp)
    · rw [zud_ne (show ¬ 3 = 5 by decide)]; omega
    · rw [zud_ne (show ¬ 3 = 5 by decide)]; omega
    · rw [zud_ne (show ¬ 4 = 5 by decide)]; omega
    · rw [zud_eq]; omega
    · exact zud_ne (show ¬ 6 = 5 by decide)
    · exact fun m => ⟨zud_ne (by omega), zud_ne (by omega)⟩
  · rw [zud_ne (show ¬ 0 = 5 by decide), zud_ne (show ¬ 1 = 5 by decide), zud_ne (show ¬ 2 = 5 by decide)]
    exact zIA_e (by
      repeat (refine zFr_up (by intro hq; unfold inA at hq; omega) ?_)
      repeat (refine zFr_ze (by intro k hq; unfold inA at hq; omega) ?_)
      exact zFr_rf) h.A
  · rw [zud_ne (show ¬ 3 = 5 by decide), zud_ne (show ¬ 4 = 5 by decide)]
    exact zIB_e (by
      repeat (refine zFr_up (by intro hq; unfold inB at hq; omega) ?_)
      repeat (refine zFr_ze (by intro k hq; unfold inB at hq; omega) ?_)
      exact zFr_rf) h.B
  · rw [zud_eq, zud_ne (show ¬ 7 = 5 by decide)]
    exact zIC_conf h.K hx (by simp [z_up]) (by simp [z_up]) (by simp [z_up]) (by simp [z_up]) (by simp [z_up]) (by simp [z_up]) (by
      repeat (refine zFr_up (by rintro ⟨hq, hq2⟩; unfold inC at hq; omega) ?_)
      repeat (refine zFr_ze (by rintro k ⟨hq, hq2⟩; unfold inC at hq; omega) ?_)
      exact zFr_rf)
  · refine zIM_n (n := n) ?_ ?_ (zud_ne (show ¬ 6 = 5 by decide)) (fun m _ => ⟨zud_ne (by omega), zud_ne (by omega)⟩) (zIM_x hn4 (by
      repeat (refine zFr_up (by rintro ⟨hq, hq2⟩; unfold inM at hq; omega) ?_)
      repeat (refine zFr_ze (by rintro k ⟨hq, hq2⟩; unfold inM at hq; omega) ?_)
      exact zFr_rf) h.M)
    · rw [zud_ne (show ¬ 3 = 5 by decide)]; omega
    · rw [zud_ne (show ¬ 4 = 5 by decide)]; omega
  · exact zIF_n (n := n) (zud_ne (show ¬ 3 = 5 by decide)) (zud_ne (show ¬ 6 = 5 by decide)) (fun m _ => zud_ne (by omega)) (zIF_x hn3 hn4 h.M (by
      repeat (refine zFr_up (by rintro ⟨hq, hq2⟩; unfold inF at hq; omega) ?_)
      repeat (refine zFr_ze (by rintro k ⟨hq, hq2⟩; unfold inF at hq; omega) ?_)
      exact zFr_rf) h.F)
end
