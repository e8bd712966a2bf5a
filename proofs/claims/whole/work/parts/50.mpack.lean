/-! contracts of the reference: packing -/
/-- all that packing reads, as the reference holds it -/
def zPk (σ : zIn) (o K ni nd ne nu mi j0 pl cd vw : Nat) (lt dd dy : Nat → Nat) : Prop :=
  (σ 21 2 = nI ne ∧ ne ≤ 40 ∧ (∀ k, k < ne → zwd (σ 23 k)) ∧ ∀ k, k < ne → ∀ j, j < 3 → σ 24 (4 * k + j) = -1 → σ 24 (4 * k + j + 1) = -1) ∧ (o < 8 ∧ σ 26 o = nI K ∧ K ≤ 39) ∧ (σ 21 22 = nI nd ∧ nd ≤ 24 ∧ ∀ i, i < nd → σ 38 i = nI (dd i) ∧ dd i < ni) ∧ (ni ≤ 30 ∧ ∀ k, k < ni → σ 22 k = nI (lt k) ∧ 1 ≤ lt k ∧ lt k ≤ 20) ∧ (σ 21 16 = nI nu ∧ nu ≤ 12 ∧ σ 21 47 = nI mi ∧ mi ≤ 1000000 ∧ ∀ k, k < nu → σ 34 (k + 1) = nI (dy k) ∧ dy k ≤ 1000) ∧ zrr (fun k => dy k ≤ mi / 1440 ∧ zbt (σ 27 o) (k + 1) = false) nu j0 ∧ σ 35 j0 = nI pl ∧ 5 ≤ pl ∧ pl ≤ 20 ∧ σ 36 j0 = nI cd ∧ 5 ≤ cd ∧ cd ≤ 15 ∧ σ 37 j0 = nI vw ∧ vw ≤ 3
theorem zPk_e {σ τ : zIn} {o K ni nd ne nu mi j0 pl cd vw : Nat} {lt dd dy : Nat → Nat} (h : zPk σ o K ni nd ne nu mi j0 pl cd vw lt dd dy) (h1 : ∀ i, i ≠ 21 → i ≠ 39 → i ≠ 40 → τ i = σ i) (h2 : ∀ k, k ≠ 25 → k ≠ 26 → k ≠ 48 → τ 21 k = σ 21 k) : zPk τ o K ni nd ne nu mi j0 pl cd vw lt dd dy := by
  unfold zPk
  rw [h2 2 (by decide) (by decide) (by decide), h2 22 (by decide) (by decide) (by decide), h2 16 (by decide) (by decide) (by decide), h2 47 (by decide) (by decide) (by decide), h1 23 (by decide) (by decide) (by decide), h1 24 (by decide) (by decide) (by decide), h1 26 (by decide) (by decide) (by decide), h1 38 (by decide) (by decide) (by decide), h1 22 (by decide) (by decide) (by decide), h1 34 (by decide) (by decide) (by decide), h1 27 (by decide) (by decide) (by decide), h1 35 (by decide) (by decide) (by decide), h1 36 (by decide) (by decide) (by decide), h1 37 (by decide) (by decide) (by decide)]
  exact h
theorem zrr_le {P : Nat → Prop} {n j : Nat} (h : zrr P n j) : j ≤ n := by
  rcases h with ⟨h1, -⟩ | ⟨k, h1, h2, -⟩ <;> omega
theorem zrr_u {P : Nat → Prop} {n j j' : Nat} (h : zrr P n j) (h' : zrr P n j') : j = j' := by
  rcases h with ⟨h1, h2⟩ | ⟨k, h1, h2, h3, h4⟩ <;> rcases h' with ⟨k1, k2⟩ | ⟨k', k1, k2, k3, k4⟩
  · omega
  · exact absurd k3 (h2 k' k1)
  · exact absurd h3 (k2 k h1)
  · rcases Nat.lt_trichotomy k k' with q | q | q
    · exact absurd k3 (h4 k' k1 q)
    · omega
    · exact absurd h3 (k4 k h1 q)
noncomputable def zus (Ph D C : Nat → Int32) (ne K vw nd p m : Nat) : Bool := @decide (p + m ≤ nd ∧ ∃ k, k < ne ∧ zmt Ph D k p m ∧ vw ≤ zvw (C ((k + K) % ne))) (Classical.propDecidable _)
theorem zus_t {Ph D C : Nat → Int32} {ne K vw nd p m : Nat} : zus Ph D C ne K vw nd p m = true ↔ (p + m ≤ nd ∧ ∃ k, k < ne ∧ zmt Ph D k p m ∧ vw ≤ zvw (C ((k + K) % ne))) := by
  unfold zus; exact @decide_eq_true_iff _ (Classical.propDecidable _)
noncomputable abbrev zusσ (σ : zIn) (ne K vw nd : Nat) : Nat → Nat → Bool := zus (σ 24) (σ 38) (σ 23) ne K vw nd
/-- what entryAt answers -/
def zen (σ : zIn) (ne K vw nd p m : Nat) (r : Int32) : Prop := (∃ k, k < ne ∧ p + m ≤ nd ∧ zmt (σ 24) (σ 38) k p m ∧ vw ≤ zvw (σ 23 ((k + K) % ne)) ∧ r = nI k) ∨ (zusσ σ ne K vw nd p m = false ∧ r = -1)
theorem zen_1 {σ : zIn} {ne K vw nd p m : Nat} {r : Int32} (he : ne ≤ 40) (h : zen σ ne K vw nd p m r) : (r = -1 ∧ zusσ σ ne K vw nd p m = false) ∨ (r ≠ -1 ∧ zusσ σ ne K vw nd p m = true) := by
  rcases h with ⟨k, h1, h2, h3, h4, h5⟩ | ⟨h1, h2⟩
  · exact Or.inr ⟨by rw [h5]; exact nI_ne_m1 (by omega), zus_t.mpr ⟨h2, k, h1, h3, h4⟩⟩
  · exact Or.inl ⟨h2, h1⟩
set_option maxHeartbeats 4000000 in
set_option maxRecDepth 100000 in
theorem tX9_sentAs {l : Launch} {D : va_G} {cy : Nat → ClassId} {z0 : Nat} {g : zSh} {σ : zIn} {o K ni nd ne nu mi j0 pl cd vw : Nat} {lt dd dy : Nat → Nat} (k : Nat) (hS : zS g) (hP : zPk σ o K ni nd ne nu mi j0 pl cd vw lt dd dy) (hk : k < ne) : z_Ct l D cy z0 MX9_sentAs [.ref (g.2.1 21), .int (nI k), .int (nI o)] g σ (zI (σ 23 ((k + K) % ne)) g σ) := by
  obtain ⟨⟨he, he2, hC, hNC⟩, ⟨ho, hK, hK2⟩, -⟩ := hP
  have hmod := Nat.mod_lt (k + K) (show 0 < ne by omega)
  refine z_ofM (by decide) (z_cr (z_ci (z_ci z_c0))) (Nat.le_of_ble_eq_true rfl) ?_
  intro p e s m args below meth c X
  refine z_aload_n X dX9_sentAs_0 rfl ?_
  refine z_getr2 X fX9_13 (zso_21 hS) (zsr_21_3 hS) rfl dX9_sentAs_1 ?_
  refine z_iload_n X dX9_sentAs_4 rfl ?_
  refine z_aload_n X dX9_sentAs_5 rfl ?_
  refine z_getr2 X fX9_23 (zso_21 hS) (zsr_21_7 hS) rfl dX9_sentAs_6 ?_
  refine z_iload_n X dX9_sentAs_9 rfl ?_
  refine z_ialdN X (zsa_26 hS) (by omega) (by omega) dX9_sentAs_10 ?_
  rw [hK]
  refine z_iaddN X dX9_sentAs_11 ?_
  refine z_aload_n X dX9_sentAs_12 rfl ?_
  refine z_geti X fX9_168 (zso_21 hS) rfl dX9_sentAs_13 ?_
  rw [he]
  refine z_iremN X (by omega) (by omega) (by omega) dX9_sentAs_16 ?_
  refine z_ialdN X (zsa_23 hS) (by omega) (by omega) dX9_sentAs_17 ?_
  refine z_iret X (by decide) (by decide) rfl dX9_sentAs_18 ?_
  exact ⟨rfl, rfl, rfl⟩

set_option maxHeartbeats 4000000 in
set_option maxRecDepth 100000 in
theorem tX9_plainAt {l : Launch} {D : va_G} {cy : Nat → ClassId} {z0 : Nat} {g : zSh} {σ : zIn} {o K ni nd ne nu mi j0 pl cd vw : Nat} {lt dd dy : Nat → Nat} (p9 b9 : Nat) (hS : zS g) (hP : zPk σ o K ni nd ne nu mi j0 pl cd vw lt dd dy) (hp : p9 < nd) (hb : 5 ≤ b9) (hb2 : b9 ≤ 20) : z_Ct l D cy z0 MX9_plainAt [.ref (g.2.1 21), .int (nI p9), .int (nI b9)] g σ (zI (nI (zup (lt (dd p9)) b9)) g σ) := by
  obtain ⟨-, -, ⟨hnd, hn24, hdd⟩, ⟨hni, hlt⟩, -⟩ := hP
  obtain ⟨h1, h2⟩ := hdd p9 hp
  obtain ⟨h3, h4, h5⟩ := hlt _ h2
  refine z_ofM (by decide) (z_cr (z_ci (z_ci z_c0))) (Nat.le_of_ble_eq_true rfl) ?_
  intro p e s m args below meth c X
  refine z_aload_n X dX9_plainAt_0 rfl ?_
  refine z_getr2 X fX9_7 (zso_21 hS) (zsr_21_1 hS) rfl dX9_plainAt_1 ?_
  refine z_aload_n X dX9_plainAt_4 rfl ?_
  refine z_getr2 X fX9_59 (zso_21 hS) (zsr_21_21 hS) rfl dX9_plainAt_5 ?_
  refine z_iload_n X dX9_plainAt_8 rfl ?_
  refine z_ialdN X (zsa_38 hS) (by omega) (by omega) dX9_plainAt_9 ?_
  rw [h1]
  refine z_ialdN X (zsa_22 hS) (by omega) (by omega) dX9_plainAt_10 ?_
  rw [h3]
  refine z_iload_n X dX9_plainAt_11 rfl ?_
  refine z_runS X kX9_211 (tX9_up _ _ (by omega) (by omega) (by omega)) rfl rfl (Nat.le_of_ble_eq_true rfl) ⟨by decide, by decide⟩ ⟨by decide, by decide⟩ dX9_plainAt_12 ?_
  rintro _ g1 s1 ⟨rfl, h8, h9⟩
  replace h8 := h8.symm
  subst h8
  replace h9 := h9.symm
  subst h9
  refine z_iret X (by decide) (by decide) rfl dX9_plainAt_15 ?_
  exact ⟨rfl, rfl, rfl⟩

set_option maxHeartbeats 4000000 in
set_option maxRecDepth 100000 in
theorem tX9_allPlain {l : Launch} {D : va_G} {cy : Nat → ClassId} {z0 : Nat} {g : zSh} {σ : zIn} {o K ni nd ne nu mi j0 pl cd vw : Nat} {lt dd dy : Nat → Nat} (b9 : Nat) (hS : zS g) (hP : zPk σ o K ni nd ne nu mi j0 pl cd vw lt dd dy) (hb : 5 ≤ b9) (hb2 : b9 ≤ 20) : z_Ct l D cy z0 MX9_allPlain [.ref (g.2.1 21), .int (nI b9)] g σ (zI (nI (zsum (fun i => zup (lt (dd i)) b9) nd)) g σ) := by
  have hnd := hP.2.2.1.1
  have hn24 := hP.2.2.1.2.1
  refine z_ofM (by decide) (z_cr (z_ci z_c0)) (Nat.le_of_ble_eq_true rfl) ?_
  intro p e s m args below meth c X
  have loop_4 : ∀ (n : Nat) (k : Nat) (hk : k ≤ nd) (hn : nd - k < n), z_V p l e (zRm MX9_allPlain) s m args below meth c 4 D cy z0 0 0 (zQm MX9_allPlain below D cy z0 (zI (nI (zsum (fun i => zup (lt (dd i)) b9) nd)) g σ) args s) 4 [some (.ref (g.2.1 21)), some (.int (nI b9)), some (.int (nI (zsum (fun i => zup (lt (dd i)) b9) k))), some (.int (nI k))] [] g σ := by
    intro n
    induction n with
    | zero => intro k hk hn; exact absurd hn (Nat.not_lt_zero _)
    | succ n ih_4 =>
      intro k hk hn
      refine z_iload_n X dX9_allPlain_4 rfl ?_
      refine z_aload_n X dX9_allPlain_5 rfl ?_
      refine z_geti X fX9_202 (zso_21 hS) rfl dX9_allPlain_6 ?_
      rw [hnd]
      refine z_icmp_ge (tgt := 27) X dX9_allPlain_9 (by decide) (fun c_9 => ?_) (fun c_9 => ?_)
      · skip
        try simp (disch := omega) only [zk0, nI_leI, nI_ltI, nI_eq, zbk_notn, zbk_not, zbk_n0, zbk_0, zb_0, zb_n0, zb_not, zb_notn, Bool.not_eq_false, Bool.not_eq_true, Bool.not_eq_true', Bool.not_eq_false', decide_eq_true_eq, decide_eq_false_iff_not, Classical.not_not] at c_9
        refine z_iload_n X dX9_allPlain_27 rfl ?_
        refine z_iret X (by decide) (by decide) rfl dX9_allPlain_28 ?_
        have e : nd = k := by omega
        subst e
        exact ⟨rfl, rfl, rfl⟩
      · skip
        try simp (disch := omega) only [zk0, nI_leI, nI_ltI, nI_eq, zbk_notn, zbk_not, zbk_n0, zbk_0, zb_0, zb_n0, zb_not, zb_notn, Bool.not_eq_false, Bool.not_eq_true, Bool.not_eq_true', Bool.not_eq_false', decide_eq_true_eq, decide_eq_false_iff_not, Classical.not_not] at c_9
        refine z_iload_n X dX9_allPlain_12 rfl ?_
        refine z_aload_n X dX9_allPlain_13 rfl ?_
        refine z_iload_n X dX9_allPlain_14 rfl ?_
        refine z_iload_n X dX9_allPlain_15 rfl ?_
        refine z_runV X kX9_214 (tX9_plainAt (o := o) k b9 hS hP (by omega) hb hb2) (zso_21 hS) rfl rfl (Nat.le_of_ble_eq_true rfl) ⟨by decide, by decide⟩ ⟨by decide, by decide⟩ dX9_allPlain_16 ?_
        rintro _ g1 s1 ⟨rfl, h8, h9⟩
        replace h8 := h8.symm
        subst h8
        replace h9 := h9.symm
        subst h9
        refine z_iaddN X dX9_allPlain_19 ?_
        refine z_istore_n X dX9_allPlain_20 (by decide) ?_
        refine z_inc1 X dX9_allPlain_21 rfl (by decide) ?_
        refine z_goto (tgt := 4) X dX9_allPlain_24 (by decide) ?_
        exact ih_4 (k + 1) (by omega) (by omega)
  refine z_iconst (v := nI 0) X (by decide) dX9_allPlain_0 ?_
  refine z_istore_n X dX9_allPlain_1 (by decide) ?_
  refine z_iconst (v := nI 0) X (by decide) dX9_allPlain_2 ?_
  refine z_istore_n X dX9_allPlain_3 (by decide) ?_
  exact loop_4 (nd - 0 + 1) 0 (Nat.zero_le _) (by omega)

theorem zis_mt {σ : zIn} {p m k : Nat} (hm : 1 ≤ m) (hm4 : m ≤ 4) (hNC : ∀ j, j < 3 → σ 24 (4 * k + j) = -1 → σ 24 (4 * k + j + 1) = -1) : (∀ i, i < 4 → σ 24 (4 * k + i) = if i < m then σ 38 (p + i) else -1) ↔ zmt (σ 24) (σ 38) k p m := by
  constructor
  · intro h
    refine ⟨fun i hi => by have := h i (by omega); rw [if_pos hi] at this; exact this, fun h4 => by have := h m h4; rw [if_neg (Nat.lt_irrefl _)] at this; exact this⟩
  · rintro ⟨h1, h2⟩ i hi
    by_cases e : i < m
    · rw [if_pos e]; exact h1 i e
    · rw [if_neg e]
      have : ∀ d, m + d < 4 → σ 24 (4 * k + (m + d)) = -1 := by
        intro d
        induction d with
        | zero => intro hd; exact h2 hd
        | succ d ih => intro hd; exact hNC (m + d) (by omega) (ih (by omega))
      have := this (i - m) (by omega)
      rw [show m + (i - m) = i by omega] at this
      exact this
set_option maxHeartbeats 4000000 in
set_option maxRecDepth 100000 in
theorem tX9_entryAt {l : Launch} {D : va_G} {cy : Nat → ClassId} {z0 : Nat} {g : zSh} {σ : zIn} {o K ni nd ne nu mi j0 pl cd vw : Nat} {lt dd dy : Nat → Nat} (p9 m9 : Nat) (hS : zS g) (hP : zPk σ o K ni nd ne nu mi j0 pl cd vw lt dd dy) (hm1 : 1 ≤ m9) (hm4 : m9 ≤ 4) (hp : p9 ≤ 24) : z_Ct l D cy z0 MX9_entryAt [.ref (g.2.1 21), .int (nI p9), .int (nI m9), .int (nI o)] g σ (fun v g' σ' => ∃ r, v = some (.int r) ∧ g' = g ∧ σ' = σ ∧ zen σ ne K vw nd p9 m9 r) := by
  have hP9 := hP
  obtain ⟨⟨he, he2, hC, hNC⟩, ⟨ho, hK, hK2⟩, ⟨hnd, hn24, hdd⟩, hltt, ⟨hnu, hn12, hmi, hmi2, hdy⟩, hj0, hpl, hpl1, hpl2, hcd, hcd1, hcd2, hvw, hvw2⟩ := hP9
  have hj12 := zrr_le hj0
  refine z_ofM (by decide) (z_cr (z_ci (z_ci (z_ci z_c0)))) (Nat.le_of_ble_eq_true rfl) ?_
  intro p e s m args below meth c X
  have loop_6 : ∀ (n : Nat) (k : Nat) (fd : Int32) (v6 v7 : Option Value) (hk : k ≤ ne) (hfd : (∃ j, j < k ∧ (p9 + m9 ≤ nd ∧ zmt (σ 24) (σ 38) j p9 m9 ∧ vw ≤ zvw (σ 23 ((j + K) % ne))) ∧ fd = nI j) ∨ ((∀ j, j < k → ¬ (p9 + m9 ≤ nd ∧ zmt (σ 24) (σ 38) j p9 m9 ∧ vw ≤ zvw (σ 23 ((j + K) % ne)))) ∧ fd = -1)) (hn : ne - k < n), z_V p l e (zRm MX9_entryAt) s m args below meth c 8 D cy z0 0 0 (zQm MX9_entryAt below D cy z0 (fun v g' σ' => ∃ r, v = some (.int r) ∧ g' = g ∧ σ' = σ ∧ zen σ ne K vw nd p9 m9 r) args s) 6 [some (.ref (g.2.1 21)), some (.int (nI p9)), some (.int (nI m9)), some (.int (nI o)), some (.int fd), some (.int (nI k)), v6, v7] [] g σ := by
    intro n
    induction n with
    | zero => intro k fd v6 v7 hk hfd hn; exact absurd hn (Nat.not_lt_zero _)
    | succ n ih_6 =>
      intro k fd v6 v7 hk hfd hn
      refine z_iload X dX9_entryAt_6 rfl ?_
      refine z_aload_n X dX9_entryAt_8 rfl ?_
      refine z_geti X fX9_168 (zso_21 hS) rfl dX9_entryAt_9 ?_
      rw [he]
      refine z_icmp_ge (tgt := 136) X dX9_entryAt_12 (by decide) (fun c_12 => ?_) (fun c_12 => ?_)
      · skip
        try simp (disch := omega) only [zk0, nI_leI, nI_ltI, nI_eq, zbk_notn, zbk_not, zbk_n0, zbk_0, zb_0, zb_n0, zb_not, zb_notn, Bool.not_eq_false, Bool.not_eq_true, Bool.not_eq_true', Bool.not_eq_false', decide_eq_true_eq, decide_eq_false_iff_not, Classical.not_not] at c_12
        refine z_iload X dX9_entryAt_136 rfl ?_
        refine z_iret X (by decide) (by decide) rfl dX9_entryAt_138 ?_
        have e : ne = k := by omega
        subst e
        refine ⟨fd, rfl, rfl, rfl, ?_⟩
        rcases hfd with ⟨j, h1, ⟨h2, h3, h4⟩, h5⟩ | ⟨h1, h2⟩
        · exact Or.inl ⟨j, h1, h2, h3, h4, h5⟩
        · refine Or.inr ⟨?_, h2⟩
          cases hz : zusσ σ ne K vw nd p9 m9
          · rfl
          · obtain ⟨z1, j, z2, z3, z4⟩ := zus_t.mp hz
            exact absurd ⟨z1, z3, z4⟩ (h1 j z2)
      · skip
        try simp (disch := omega) only [zk0, nI_leI, nI_ltI, nI_eq, zbk_notn, zbk_not, zbk_n0, zbk_0, zb_0, zb_n0, zb_not, zb_notn, Bool.not_eq_false, Bool.not_eq_true, Bool.not_eq_true', Bool.not_eq_false', decide_eq_true_eq, decide_eq_false_iff_not, Classical.not_not] at c_12
        refine z_iload_n X dX9_entryAt_15 rfl ?_
        refine z_iload_n X dX9_entryAt_16 rfl ?_
        refine z_iaddN X dX9_entryAt_17 ?_
        refine z_aload_n X dX9_entryAt_18 rfl ?_
        refine z_geti X fX9_202 (zso_21 hS) rfl dX9_entryAt_19 ?_
        rw [hnd]
        refine z_icmp_gt (tgt := 29) X dX9_entryAt_22 (by decide) (fun c_22 => ?_) (fun c_22 => ?_)
        · skip
          try simp (disch := omega) only [zk0, nI_leI, nI_ltI, nI_eq, zbk_notn, zbk_not, zbk_n0, zbk_0, zb_0, zb_n0, zb_not, zb_notn, Bool.not_eq_false, Bool.not_eq_true, Bool.not_eq_true', Bool.not_eq_false', decide_eq_true_eq, decide_eq_false_iff_not, Classical.not_not] at c_22
          refine z_iconst (v := nI 0) X (by decide) dX9_entryAt_29 ?_
          first | (have ht0 : true = true ↔ (p9 + m9 ≤ nd ∧ ∀ i, i < 0 → σ 24 (4 * k + i) = if i < m9 then σ 38 (p9 + i) else -1) := ⟨fun _ => ⟨by omega, fun i hi => absurd hi (Nat.not_lt_zero _)⟩, fun _ => rfl⟩; rw [show Value.int (nI 1) = Value.int (zb true) from rfl]) | (have ht0 : false = true ↔ (p9 + m9 ≤ nd ∧ ∀ i, i < 0 → σ 24 (4 * k + i) = if i < m9 then σ 38 (p9 + i) else -1) := ⟨fun z => absurd z (by decide), fun z => by have := z.1; omega⟩; rw [show Value.int (nI 0) = Value.int (zb false) from rfl])
          refine z_istore X dX9_entryAt_30 (by decide) ?_
          have loop_35 : ∀ (n : Nat) (q : Nat) (t : Bool) (hq : q ≤ 4) (ht : t = true ↔ (p9 + m9 ≤ nd ∧ ∀ i, i < q → σ 24 (4 * k + i) = if i < m9 then σ 38 (p9 + i) else -1)) (hn : 4 - q < n), z_V p l e (zRm MX9_entryAt) s m args below meth c 8 D cy z0 0 0 (zQm MX9_entryAt below D cy z0 (fun v g' σ' => ∃ r, v = some (.int r) ∧ g' = g ∧ σ' = σ ∧ zen σ ne K vw nd p9 m9 r) args s) 35 [some (.ref (g.2.1 21)), some (.int (nI p9)), some (.int (nI m9)), some (.int (nI o)), some (.int fd), some (.int (nI k)), some (.int (zb t)), some (.int (nI q))] [] g σ := by
            intro n
            induction n with
            | zero => intro q t hq ht hn; exact absurd hn (Nat.not_lt_zero _)
            | succ n ih_35 =>
              intro q t hq ht hn
              refine z_iload X dX9_entryAt_35 rfl ?_
              refine z_iconst (v := nI 4) X (by decide) dX9_entryAt_37 ?_
              refine z_icmp_ge (tgt := 93) X dX9_entryAt_38 (by decide) (fun c_38 => ?_) (fun c_38 => ?_)
              · skip
                try simp (disch := omega) only [zk0, nI_leI, nI_ltI, nI_eq, zbk_notn, zbk_not, zbk_n0, zbk_0, zb_0, zb_n0, zb_not, zb_notn, Bool.not_eq_false, Bool.not_eq_true, Bool.not_eq_true', Bool.not_eq_false', decide_eq_true_eq, decide_eq_false_iff_not, Classical.not_not] at c_38
                refine z_iload X dX9_entryAt_93 rfl ?_
                refine z_if_eq (tgt := 126) X dX9_entryAt_95 (by decide) (fun c_95 => ?_) (fun c_95 => ?_)
                · skip
                  try simp (disch := omega) only [zb_notn, zb_not, zb_n0, zb_0, Bool.not_eq_false, Bool.not_eq_true, Bool.not_eq_true', Bool.not_eq_false', decide_eq_true_eq, decide_eq_false_iff_not, Classical.not_not] at c_95
                  have hB : ¬ (p9 + m9 ≤ nd ∧ zmt (σ 24) (σ 38) k p9 m9 ∧ vw ≤ zvw (σ 23 ((k + K) % ne))) := fun z => by first | (have z2 := z.2.2; rw [eW] at z2; omega) | exact absurd (ht.mpr ⟨z.1, fun i hi => (zis_mt hm1 hm4 (hNC k (by omega))).mpr z.2.1 i (by omega)⟩) (by rw [c_95]; decide)
                  refine z_iload X dX9_entryAt_126 rfl ?_
                  refine z_istore X dX9_entryAt_128 (by decide) ?_
                  refine z_inc1 X dX9_entryAt_130 rfl (by decide) ?_
                  refine z_goto (tgt := 6) X dX9_entryAt_133 (by decide) ?_
                  first | exact ih_6 (k + 1) _ _ _ (by omega) (Or.inl ⟨k, by omega, ⟨hT.1, hT.2, hG⟩, rfl⟩) (by omega) | exact ih_6 (k + 1) _ _ _ (by omega) (by rcases hfd with ⟨j, h1, h2⟩ | ⟨h1, h2⟩; exact Or.inl ⟨j, by omega, h2⟩; exact Or.inr ⟨fun j hj => by rcases Nat.lt_or_ge j k with h | h; exact h1 j h; (have e : j = k := by omega); subst e; exact hB, h2⟩) (by omega)
                · skip
                  try simp (disch := omega) only [zb_notn, zb_not, zb_n0, zb_0, Bool.not_eq_false, Bool.not_eq_true, Bool.not_eq_true', Bool.not_eq_false', decide_eq_true_eq, decide_eq_false_iff_not, Classical.not_not] at c_95
                  have hqe : q = 4 := by first | omega | (exfalso; rw [c_43] at c_95; exact absurd c_95 (by decide))
                  subst hqe
                  have hT : p9 + m9 ≤ nd ∧ zmt (σ 24) (σ 38) k p9 m9 := ⟨(ht.mp c_95).1, (zis_mt hm1 hm4 (hNC k (by omega))).mp (ht.mp c_95).2⟩
                  refine z_aload_n X dX9_entryAt_98 rfl ?_
                  refine z_iload X dX9_entryAt_99 rfl ?_
                  refine z_iload_n X dX9_entryAt_101 rfl ?_
                  refine z_runV X kX9_205 (tX9_sentAs (o := o) k hS hP (by omega)) (zso_21 hS) rfl rfl (Nat.le_of_ble_eq_true rfl) ⟨by decide, by decide⟩ ⟨by decide, by decide⟩ dX9_entryAt_102 ?_
                  rintro _ g1 s1 ⟨rfl, h8, h9⟩
                  replace h8 := h8.symm
                  subst h8
                  replace h9 := h9.symm
                  subst h9
                  have hmod := Nat.mod_lt (k + K) (show 0 < ne by omega)
                  obtain ⟨Wk, hWk, eW⟩ := hC _ hmod
                  rw [eW]
                  refine z_runS X kX9_208 (tX9_vowelsOf _ (by omega)) rfl rfl (Nat.le_of_ble_eq_true rfl) ⟨by decide, by decide⟩ ⟨by decide, by decide⟩ dX9_entryAt_105 ?_
                  rintro _ g1 s1 ⟨rfl, h8, h9⟩
                  replace h8 := h8.symm
                  subst h8
                  replace h9 := h9.symm
                  subst h9
                  refine z_aload_n X dX9_entryAt_108 rfl ?_
                  refine z_getr2 X fX9_56 (zso_21 hS) (zsr_21_20 hS) rfl dX9_entryAt_109 ?_
                  refine z_aload_n X dX9_entryAt_112 rfl ?_
                  refine z_iload_n X dX9_entryAt_113 rfl ?_
                  refine z_runV X kX9_199 (tX9_rulesAt o hS hnu hn12 hmi hmi2 hdy ho) (zso_21 hS) rfl rfl (Nat.le_of_ble_eq_true rfl) ⟨by decide, by decide⟩ ⟨by decide, by decide⟩ dX9_entryAt_114 ?_
                  rintro _ g1 s1 ⟨j, rfl, h8, h9, hj⟩
                  replace h8 := h8.symm
                  subst h8
                  replace h9 := h9.symm
                  subst h9
                  obtain rfl : j0 = j := zrr_u hj0 hj
                  refine z_ialdN X (zsa_37 hS) (by omega) (by omega) dX9_entryAt_117 ?_
                  rw [hvw]
                  have hz5 := zvk_le (nI Wk) 5
                  replace hz5 : zvw (nI Wk) ≤ 5 := hz5
                  refine z_icmp_lt (tgt := 126) X dX9_entryAt_118 (by decide) (fun c_118 => ?_) (fun c_118 => ?_)
                  · skip
                    try simp (disch := omega) only [zk0, nI_leI, nI_ltI, nI_eq, zbk_notn, zbk_not, zbk_n0, zbk_0, zb_0, zb_n0, zb_not, zb_notn, Bool.not_eq_false, Bool.not_eq_true, Bool.not_eq_true', Bool.not_eq_false', decide_eq_true_eq, decide_eq_false_iff_not, Classical.not_not] at c_118
                    have hB : ¬ (p9 + m9 ≤ nd ∧ zmt (σ 24) (σ 38) k p9 m9 ∧ vw ≤ zvw (σ 23 ((k + K) % ne))) := fun z => by first | (have z2 := z.2.2; rw [eW] at z2; omega) | exact absurd (ht.mpr ⟨z.1, fun i hi => (zis_mt hm1 hm4 (hNC k (by omega))).mpr z.2.1 i (by omega)⟩) (by rw [c_95]; decide)
                    refine z_iload X dX9_entryAt_126 rfl ?_
                    refine z_istore X dX9_entryAt_128 (by decide) ?_
                    refine z_inc1 X dX9_entryAt_130 rfl (by decide) ?_
                    refine z_goto (tgt := 6) X dX9_entryAt_133 (by decide) ?_
                    first | exact ih_6 (k + 1) _ _ _ (by omega) (Or.inl ⟨k, by omega, ⟨hT.1, hT.2, hG⟩, rfl⟩) (by omega) | exact ih_6 (k + 1) _ _ _ (by omega) (by rcases hfd with ⟨j, h1, h2⟩ | ⟨h1, h2⟩; exact Or.inl ⟨j, by omega, h2⟩; exact Or.inr ⟨fun j hj => by rcases Nat.lt_or_ge j k with h | h; exact h1 j h; (have e : j = k := by omega); subst e; exact hB, h2⟩) (by omega)
                  · skip
                    try simp (disch := omega) only [zk0, nI_leI, nI_ltI, nI_eq, zbk_notn, zbk_not, zbk_n0, zbk_0, zb_0, zb_n0, zb_not, zb_notn, Bool.not_eq_false, Bool.not_eq_true, Bool.not_eq_true', Bool.not_eq_false', decide_eq_true_eq, decide_eq_false_iff_not, Classical.not_not] at c_118
                    have hG : vw ≤ zvw (σ 23 ((k + K) % ne)) := by rw [eW]; omega
                    refine z_iload X dX9_entryAt_121 rfl ?_
                    refine z_goto (tgt := 128) X dX9_entryAt_123 (by decide) ?_
                    refine z_istore X dX9_entryAt_128 (by decide) ?_
                    refine z_inc1 X dX9_entryAt_130 rfl (by decide) ?_
                    refine z_goto (tgt := 6) X dX9_entryAt_133 (by decide) ?_
                    first | exact ih_6 (k + 1) _ _ _ (by omega) (Or.inl ⟨k, by omega, ⟨hT.1, hT.2, hG⟩, rfl⟩) (by omega) | exact ih_6 (k + 1) _ _ _ (by omega) (by rcases hfd with ⟨j, h1, h2⟩ | ⟨h1, h2⟩; exact Or.inl ⟨j, by omega, h2⟩; exact Or.inr ⟨fun j hj => by rcases Nat.lt_or_ge j k with h | h; exact h1 j h; (have e : j = k := by omega); subst e; exact hB, h2⟩) (by omega)
              · skip
                try simp (disch := omega) only [zk0, nI_leI, nI_ltI, nI_eq, zbk_notn, zbk_not, zbk_n0, zbk_0, zb_0, zb_n0, zb_not, zb_notn, Bool.not_eq_false, Bool.not_eq_true, Bool.not_eq_true', Bool.not_eq_false', decide_eq_true_eq, decide_eq_false_iff_not, Classical.not_not] at c_38
                refine z_iload X dX9_entryAt_41 rfl ?_
                refine z_if_eq (tgt := 93) X dX9_entryAt_43 (by decide) (fun c_43 => ?_) (fun c_43 => ?_)
                · skip
                  try simp (disch := omega) only [zb_notn, zb_not, zb_n0, zb_0, Bool.not_eq_false, Bool.not_eq_true, Bool.not_eq_true', Bool.not_eq_false', decide_eq_true_eq, decide_eq_false_iff_not, Classical.not_not] at c_43
                  refine z_iload X dX9_entryAt_93 rfl ?_
                  refine z_if_eq (tgt := 126) X dX9_entryAt_95 (by decide) (fun c_95 => ?_) (fun c_95 => ?_)
                  · skip
                    try simp (disch := omega) only [zb_notn, zb_not, zb_n0, zb_0, Bool.not_eq_false, Bool.not_eq_true, Bool.not_eq_true', Bool.not_eq_false', decide_eq_true_eq, decide_eq_false_iff_not, Classical.not_not] at c_95
                    have hB : ¬ (p9 + m9 ≤ nd ∧ zmt (σ 24) (σ 38) k p9 m9 ∧ vw ≤ zvw (σ 23 ((k + K) % ne))) := fun z => by first | (have z2 := z.2.2; rw [eW] at z2; omega) | exact absurd (ht.mpr ⟨z.1, fun i hi => (zis_mt hm1 hm4 (hNC k (by omega))).mpr z.2.1 i (by omega)⟩) (by rw [c_95]; decide)
                    refine z_iload X dX9_entryAt_126 rfl ?_
                    refine z_istore X dX9_entryAt_128 (by decide) ?_
                    refine z_inc1 X dX9_entryAt_130 rfl (by decide) ?_
                    refine z_goto (tgt := 6) X dX9_entryAt_133 (by decide) ?_
                    first | exact ih_6 (k + 1) _ _ _ (by omega) (Or.inl ⟨k, by omega, ⟨hT.1, hT.2, hG⟩, rfl⟩) (by omega) | exact ih_6 (k + 1) _ _ _ (by omega) (by rcases hfd with ⟨j, h1, h2⟩ | ⟨h1, h2⟩; exact Or.inl ⟨j, by omega, h2⟩; exact Or.inr ⟨fun j hj => by rcases Nat.lt_or_ge j k with h | h; exact h1 j h; (have e : j = k := by omega); subst e; exact hB, h2⟩) (by omega)
                  · skip
                    try simp (disch := omega) only [zb_notn, zb_not, zb_n0, zb_0, Bool.not_eq_false, Bool.not_eq_true, Bool.not_eq_true', Bool.not_eq_false', decide_eq_true_eq, decide_eq_false_iff_not, Classical.not_not] at c_95
                    have hqe : q = 4 := by first | omega | (exfalso; rw [c_43] at c_95; exact absurd c_95 (by decide))
                    subst hqe
                    have hT : p9 + m9 ≤ nd ∧ zmt (σ 24) (σ 38) k p9 m9 := ⟨(ht.mp c_95).1, (zis_mt hm1 hm4 (hNC k (by omega))).mp (ht.mp c_95).2⟩
                    refine z_aload_n X dX9_entryAt_98 rfl ?_
                    refine z_iload X dX9_entryAt_99 rfl ?_
                    refine z_iload_n X dX9_entryAt_101 rfl ?_
                    refine z_runV X kX9_205 (tX9_sentAs (o := o) k hS hP (by omega)) (zso_21 hS) rfl rfl (Nat.le_of_ble_eq_true rfl) ⟨by decide, by decide⟩ ⟨by decide, by decide⟩ dX9_entryAt_102 ?_
                    rintro _ g1 s1 ⟨rfl, h8, h9⟩
                    replace h8 := h8.symm
                    subst h8
                    replace h9 := h9.symm
                    subst h9
                    have hmod := Nat.mod_lt (k + K) (show 0 < ne by omega)
                    obtain ⟨Wk, hWk, eW⟩ := hC _ hmod
                    rw [eW]
                    refine z_runS X kX9_208 (tX9_vowelsOf _ (by omega)) rfl rfl (Nat.le_of_ble_eq_true rfl) ⟨by decide, by decide⟩ ⟨by decide, by decide⟩ dX9_entryAt_105 ?_
                    rintro _ g1 s1 ⟨rfl, h8, h9⟩
                    replace h8 := h8.symm
                    subst h8
                    replace h9 := h9.symm
                    subst h9
                    refine z_aload_n X dX9_entryAt_108 rfl ?_
                    refine z_getr2 X fX9_56 (zso_21 hS) (zsr_21_20 hS) rfl dX9_entryAt_109 ?_
                    refine z_aload_n X dX9_entryAt_112 rfl ?_
                    refine z_iload_n X dX9_entryAt_113 rfl ?_
                    refine z_runV X kX9_199 (tX9_rulesAt o hS hnu hn12 hmi hmi2 hdy ho) (zso_21 hS) rfl rfl (Nat.le_of_ble_eq_true rfl) ⟨by decide, by decide⟩ ⟨by decide, by decide⟩ dX9_entryAt_114 ?_
                    rintro _ g1 s1 ⟨j, rfl, h8, h9, hj⟩
                    replace h8 := h8.symm
                    subst h8
                    replace h9 := h9.symm
                    subst h9
                    obtain rfl : j0 = j := zrr_u hj0 hj
                    refine z_ialdN X (zsa_37 hS) (by omega) (by omega) dX9_entryAt_117 ?_
                    rw [hvw]
                    have hz5 := zvk_le (nI Wk) 5
                    replace hz5 : zvw (nI Wk) ≤ 5 := hz5
                    refine z_icmp_lt (tgt := 126) X dX9_entryAt_118 (by decide) (fun c_118 => ?_) (fun c_118 => ?_)
                    · skip
                      try simp (disch := omega) only [zk0, nI_leI, nI_ltI, nI_eq, zbk_notn, zbk_not, zbk_n0, zbk_0, zb_0, zb_n0, zb_not, zb_notn, Bool.not_eq_false, Bool.not_eq_true, Bool.not_eq_true', Bool.not_eq_false', decide_eq_true_eq, decide_eq_false_iff_not, Classical.not_not] at c_118
                      have hB : ¬ (p9 + m9 ≤ nd ∧ zmt (σ 24) (σ 38) k p9 m9 ∧ vw ≤ zvw (σ 23 ((k + K) % ne))) := fun z => by first | (have z2 := z.2.2; rw [eW] at z2; omega) | exact absurd (ht.mpr ⟨z.1, fun i hi => (zis_mt hm1 hm4 (hNC k (by omega))).mpr z.2.1 i (by omega)⟩) (by rw [c_95]; decide)
                      refine z_iload X dX9_entryAt_126 rfl ?_
                      refine z_istore X dX9_entryAt_128 (by decide) ?_
                      refine z_inc1 X dX9_entryAt_130 rfl (by decide) ?_
                      refine z_goto (tgt := 6) X dX9_entryAt_133 (by decide) ?_
                      first | exact ih_6 (k + 1) _ _ _ (by omega) (Or.inl ⟨k, by omega, ⟨hT.1, hT.2, hG⟩, rfl⟩) (by omega) | exact ih_6 (k + 1) _ _ _ (by omega) (by rcases hfd with ⟨j, h1, h2⟩ | ⟨h1, h2⟩; exact Or.inl ⟨j, by omega, h2⟩; exact Or.inr ⟨fun j hj => by rcases Nat.lt_or_ge j k with h | h; exact h1 j h; (have e : j = k := by omega); subst e; exact hB, h2⟩) (by omega)
                    · skip
                      try simp (disch := omega) only [zk0, nI_leI, nI_ltI, nI_eq, zbk_notn, zbk_not, zbk_n0, zbk_0, zb_0, zb_n0, zb_not, zb_notn, Bool.not_eq_false, Bool.not_eq_true, Bool.not_eq_true', Bool.not_eq_false', decide_eq_true_eq, decide_eq_false_iff_not, Classical.not_not] at c_118
                      have hG : vw ≤ zvw (σ 23 ((k + K) % ne)) := by rw [eW]; omega
                      refine z_iload X dX9_entryAt_121 rfl ?_
                      refine z_goto (tgt := 128) X dX9_entryAt_123 (by decide) ?_
                      refine z_istore X dX9_entryAt_128 (by decide) ?_
                      refine z_inc1 X dX9_entryAt_130 rfl (by decide) ?_
                      refine z_goto (tgt := 6) X dX9_entryAt_133 (by decide) ?_
                      first | exact ih_6 (k + 1) _ _ _ (by omega) (Or.inl ⟨k, by omega, ⟨hT.1, hT.2, hG⟩, rfl⟩) (by omega) | exact ih_6 (k + 1) _ _ _ (by omega) (by rcases hfd with ⟨j, h1, h2⟩ | ⟨h1, h2⟩; exact Or.inl ⟨j, by omega, h2⟩; exact Or.inr ⟨fun j hj => by rcases Nat.lt_or_ge j k with h | h; exact h1 j h; (have e : j = k := by omega); subst e; exact hB, h2⟩) (by omega)
                · skip
                  try simp (disch := omega) only [zb_notn, zb_not, zb_n0, zb_0, Bool.not_eq_false, Bool.not_eq_true, Bool.not_eq_true', Bool.not_eq_false', decide_eq_true_eq, decide_eq_false_iff_not, Classical.not_not] at c_43
                  have hpm := (ht.mp c_43).1
                  refine z_aload_n X dX9_entryAt_46 rfl ?_
                  refine z_getr2 X fX9_16 (zso_21 hS) (zsr_21_4 hS) rfl dX9_entryAt_47 ?_
                  refine z_iconst (v := nI 4) X (by decide) dX9_entryAt_50 ?_
                  refine z_iload X dX9_entryAt_51 rfl ?_
                  refine z_imulN X dX9_entryAt_53 ?_
                  refine z_iload X dX9_entryAt_54 rfl ?_
                  refine z_iaddN X dX9_entryAt_56 ?_
                  refine z_ialdN X (zsa_24 hS) (by omega) (by omega) dX9_entryAt_57 ?_
                  refine z_iload X dX9_entryAt_58 rfl ?_
                  refine z_iload_n X dX9_entryAt_60 rfl ?_
                  refine z_icmp_ge (tgt := 76) X dX9_entryAt_61 (by decide) (fun c_61 => ?_) (fun c_61 => ?_)
                  · skip
                    try simp (disch := omega) only [zk0, nI_leI, nI_ltI, nI_eq, zbk_notn, zbk_not, zbk_n0, zbk_0, zb_0, zb_n0, zb_not, zb_notn, Bool.not_eq_false, Bool.not_eq_true, Bool.not_eq_true', Bool.not_eq_false', decide_eq_true_eq, decide_eq_false_iff_not, Classical.not_not] at c_61
                    have h61 : ¬ q < m9 := by omega
                    refine z_iconst (v := -1) X (by decide) dX9_entryAt_76 ?_
                    refine z_icmp_ne (tgt := 84) X dX9_entryAt_77 (by decide) (fun c_77 => ?_) (fun c_77 => ?_)
                    · skip
                      have hN : ¬ (p9 + m9 ≤ nd ∧ ∀ i, i < q + 1 → σ 24 (4 * k + i) = if i < m9 then σ 38 (p9 + i) else -1) := fun z => by have z2 := z.2 q (by omega); first | (rw [if_pos h61] at z2; exact c_77 z2) | (rw [if_neg h61] at z2; exact c_77 z2)
                      refine z_iconst (v := nI 0) X (by decide) dX9_entryAt_84 ?_
                      refine z_istore X dX9_entryAt_85 (by decide) ?_
                      refine z_inc1 X dX9_entryAt_87 rfl (by decide) ?_
                      refine z_goto (tgt := 35) X dX9_entryAt_90 (by decide) ?_
                      first | exact ih_35 (q + 1) true (by omega) ⟨fun _ => hY, fun _ => rfl⟩ (by omega) | exact ih_35 (q + 1) false (by omega) ⟨fun z => absurd z (by decide), fun z => absurd z hN⟩ (by omega)
                    · skip
                      have hY : p9 + m9 ≤ nd ∧ ∀ i, i < q + 1 → σ 24 (4 * k + i) = if i < m9 then σ 38 (p9 + i) else -1 := ⟨hpm, fun i hi => by rcases Nat.lt_or_ge i q with h | h; exact (ht.mp c_43).2 i h; (have e : i = q := by omega); subst e; first | (rw [if_pos h61]; exact c_77) | (rw [if_neg h61]; exact c_77)⟩
                      refine z_iconst (v := nI 1) X (by decide) dX9_entryAt_80 ?_
                      refine z_goto (tgt := 85) X dX9_entryAt_81 (by decide) ?_
                      refine z_istore X dX9_entryAt_85 (by decide) ?_
                      refine z_inc1 X dX9_entryAt_87 rfl (by decide) ?_
                      refine z_goto (tgt := 35) X dX9_entryAt_90 (by decide) ?_
                      first | exact ih_35 (q + 1) true (by omega) ⟨fun _ => hY, fun _ => rfl⟩ (by omega) | exact ih_35 (q + 1) false (by omega) ⟨fun z => absurd z (by decide), fun z => absurd z hN⟩ (by omega)
                  · skip
                    try simp (disch := omega) only [zk0, nI_leI, nI_ltI, nI_eq, zbk_notn, zbk_not, zbk_n0, zbk_0, zb_0, zb_n0, zb_not, zb_notn, Bool.not_eq_false, Bool.not_eq_true, Bool.not_eq_true', Bool.not_eq_false', decide_eq_true_eq, decide_eq_false_iff_not, Classical.not_not] at c_61
                    have h61 : q < m9 := by omega
                    refine z_aload_n X dX9_entryAt_64 rfl ?_
                    refine z_getr2 X fX9_59 (zso_21 hS) (zsr_21_21 hS) rfl dX9_entryAt_65 ?_
                    refine z_iload_n X dX9_entryAt_68 rfl ?_
                    refine z_iload X dX9_entryAt_69 rfl ?_
                    refine z_iaddN X dX9_entryAt_71 ?_
                    refine z_ialdN X (zsa_38 hS) (by omega) (by omega) dX9_entryAt_72 ?_
                    refine z_goto (tgt := 77) X dX9_entryAt_73 (by decide) ?_
                    refine z_icmp_ne (tgt := 84) X dX9_entryAt_77 (by decide) (fun c_77 => ?_) (fun c_77 => ?_)
                    · skip
                      have hN : ¬ (p9 + m9 ≤ nd ∧ ∀ i, i < q + 1 → σ 24 (4 * k + i) = if i < m9 then σ 38 (p9 + i) else -1) := fun z => by have z2 := z.2 q (by omega); first | (rw [if_pos h61] at z2; exact c_77 z2) | (rw [if_neg h61] at z2; exact c_77 z2)
                      refine z_iconst (v := nI 0) X (by decide) dX9_entryAt_84 ?_
                      refine z_istore X dX9_entryAt_85 (by decide) ?_
                      refine z_inc1 X dX9_entryAt_87 rfl (by decide) ?_
                      refine z_goto (tgt := 35) X dX9_entryAt_90 (by decide) ?_
                      first | exact ih_35 (q + 1) true (by omega) ⟨fun _ => hY, fun _ => rfl⟩ (by omega) | exact ih_35 (q + 1) false (by omega) ⟨fun z => absurd z (by decide), fun z => absurd z hN⟩ (by omega)
                    · skip
                      have hY : p9 + m9 ≤ nd ∧ ∀ i, i < q + 1 → σ 24 (4 * k + i) = if i < m9 then σ 38 (p9 + i) else -1 := ⟨hpm, fun i hi => by rcases Nat.lt_or_ge i q with h | h; exact (ht.mp c_43).2 i h; (have e : i = q := by omega); subst e; first | (rw [if_pos h61]; exact c_77) | (rw [if_neg h61]; exact c_77)⟩
                      refine z_iconst (v := nI 1) X (by decide) dX9_entryAt_80 ?_
                      refine z_goto (tgt := 85) X dX9_entryAt_81 (by decide) ?_
                      refine z_istore X dX9_entryAt_85 (by decide) ?_
                      refine z_inc1 X dX9_entryAt_87 rfl (by decide) ?_
                      refine z_goto (tgt := 35) X dX9_entryAt_90 (by decide) ?_
                      first | exact ih_35 (q + 1) true (by omega) ⟨fun _ => hY, fun _ => rfl⟩ (by omega) | exact ih_35 (q + 1) false (by omega) ⟨fun z => absurd z (by decide), fun z => absurd z hN⟩ (by omega)
          refine z_iconst (v := nI 0) X (by decide) dX9_entryAt_32 ?_
          refine z_istore X dX9_entryAt_33 (by decide) ?_
          exact loop_35 (4 - 0 + 1) 0 _ (Nat.zero_le _) ht0 (by omega)
        · skip
          try simp (disch := omega) only [zk0, nI_leI, nI_ltI, nI_eq, zbk_notn, zbk_not, zbk_n0, zbk_0, zb_0, zb_n0, zb_not, zb_notn, Bool.not_eq_false, Bool.not_eq_true, Bool.not_eq_true', Bool.not_eq_false', decide_eq_true_eq, decide_eq_false_iff_not, Classical.not_not] at c_22
          refine z_iconst (v := nI 1) X (by decide) dX9_entryAt_25 ?_
          refine z_goto (tgt := 30) X dX9_entryAt_26 (by decide) ?_
          first | (have ht0 : true = true ↔ (p9 + m9 ≤ nd ∧ ∀ i, i < 0 → σ 24 (4 * k + i) = if i < m9 then σ 38 (p9 + i) else -1) := ⟨fun _ => ⟨by omega, fun i hi => absurd hi (Nat.not_lt_zero _)⟩, fun _ => rfl⟩; rw [show Value.int (nI 1) = Value.int (zb true) from rfl]) | (have ht0 : false = true ↔ (p9 + m9 ≤ nd ∧ ∀ i, i < 0 → σ 24 (4 * k + i) = if i < m9 then σ 38 (p9 + i) else -1) := ⟨fun z => absurd z (by decide), fun z => by have := z.1; omega⟩; rw [show Value.int (nI 0) = Value.int (zb false) from rfl])
          refine z_istore X dX9_entryAt_30 (by decide) ?_
          have loop_35 : ∀ (n : Nat) (q : Nat) (t : Bool) (hq : q ≤ 4) (ht : t = true ↔ (p9 + m9 ≤ nd ∧ ∀ i, i < q → σ 24 (4 * k + i) = if i < m9 then σ 38 (p9 + i) else -1)) (hn : 4 - q < n), z_V p l e (zRm MX9_entryAt) s m args below meth c 8 D cy z0 0 0 (zQm MX9_entryAt below D cy z0 (fun v g' σ' => ∃ r, v = some (.int r) ∧ g' = g ∧ σ' = σ ∧ zen σ ne K vw nd p9 m9 r) args s) 35 [some (.ref (g.2.1 21)), some (.int (nI p9)), some (.int (nI m9)), some (.int (nI o)), some (.int fd), some (.int (nI k)), some (.int (zb t)), some (.int (nI q))] [] g σ := by
            intro n
            induction n with
            | zero => intro q t hq ht hn; exact absurd hn (Nat.not_lt_zero _)
            | succ n ih_35 =>
              intro q t hq ht hn
              refine z_iload X dX9_entryAt_35 rfl ?_
              refine z_iconst (v := nI 4) X (by decide) dX9_entryAt_37 ?_
              refine z_icmp_ge (tgt := 93) X dX9_entryAt_38 (by decide) (fun c_38 => ?_) (fun c_38 => ?_)
              · skip
                try simp (disch := omega) only [zk0, nI_leI, nI_ltI, nI_eq, zbk_notn, zbk_not, zbk_n0, zbk_0, zb_0, zb_n0, zb_not, zb_notn, Bool.not_eq_false, Bool.not_eq_true, Bool.not_eq_true', Bool.not_eq_false', decide_eq_true_eq, decide_eq_false_iff_not, Classical.not_not] at c_38
                refine z_iload X dX9_entryAt_93 rfl ?_
                refine z_if_eq (tgt := 126) X dX9_entryAt_95 (by decide) (fun c_95 => ?_) (fun c_95 => ?_)
                · skip
                  try simp (disch := omega) only [zb_notn, zb_not, zb_n0, zb_0, Bool.not_eq_false, Bool.not_eq_true, Bool.not_eq_true', Bool.not_eq_false', decide_eq_true_eq, decide_eq_false_iff_not, Classical.not_not] at c_95
                  have hB : ¬ (p9 + m9 ≤ nd ∧ zmt (σ 24) (σ 38) k p9 m9 ∧ vw ≤ zvw (σ 23 ((k + K) % ne))) := fun z => by first | (have z2 := z.2.2; rw [eW] at z2; omega) | exact absurd (ht.mpr ⟨z.1, fun i hi => (zis_mt hm1 hm4 (hNC k (by omega))).mpr z.2.1 i (by omega)⟩) (by rw [c_95]; decide)
                  refine z_iload X dX9_entryAt_126 rfl ?_
                  refine z_istore X dX9_entryAt_128 (by decide) ?_
                  refine z_inc1 X dX9_entryAt_130 rfl (by decide) ?_
                  refine z_goto (tgt := 6) X dX9_entryAt_133 (by decide) ?_
                  first | exact ih_6 (k + 1) _ _ _ (by omega) (Or.inl ⟨k, by omega, ⟨hT.1, hT.2, hG⟩, rfl⟩) (by omega) | exact ih_6 (k + 1) _ _ _ (by omega) (by rcases hfd with ⟨j, h1, h2⟩ | ⟨h1, h2⟩; exact Or.inl ⟨j, by omega, h2⟩; exact Or.inr ⟨fun j hj => by rcases Nat.lt_or_ge j k with h | h; exact h1 j h; (have e : j = k := by omega); subst e; exact hB, h2⟩) (by omega)
                · skip
                  try simp (disch := omega) only [zb_notn, zb_not, zb_n0, zb_0, Bool.not_eq_false, Bool.not_eq_true, Bool.not_eq_true', Bool.not_eq_false', decide_eq_true_eq, decide_eq_false_iff_not, Classical.not_not] at c_95
                  have hqe : q = 4 := by first | omega | (exfalso; rw [c_43] at c_95; exact absurd c_95 (by decide))
                  subst hqe
                  have hT : p9 + m9 ≤ nd ∧ zmt (σ 24) (σ 38) k p9 m9 := ⟨(ht.mp c_95).1, (zis_mt hm1 hm4 (hNC k (by omega))).mp (ht.mp c_95).2⟩
                  refine z_aload_n X dX9_entryAt_98 rfl ?_
                  refine z_iload X dX9_entryAt_99 rfl ?_
                  refine z_iload_n X dX9_entryAt_101 rfl ?_
                  refine z_runV X kX9_205 (tX9_sentAs (o := o) k hS hP (by omega)) (zso_21 hS) rfl rfl (Nat.le_of_ble_eq_true rfl) ⟨by decide, by decide⟩ ⟨by decide, by decide⟩ dX9_entryAt_102 ?_
                  rintro _ g1 s1 ⟨rfl, h8, h9⟩
                  replace h8 := h8.symm
                  subst h8
                  replace h9 := h9.symm
                  subst h9
                  have hmod := Nat.mod_lt (k + K) (show 0 < ne by omega)
                  obtain ⟨Wk, hWk, eW⟩ := hC _ hmod
                  rw [eW]
                  refine z_runS X kX9_208 (tX9_vowelsOf _ (by omega)) rfl rfl (Nat.le_of_ble_eq_true rfl) ⟨by decide, by decide⟩ ⟨by decide, by decide⟩ dX9_entryAt_105 ?_
                  rintro _ g1 s1 ⟨rfl, h8, h9⟩
                  replace h8 := h8.symm
                  subst h8
                  replace h9 := h9.symm
                  subst h9
                  refine z_aload_n X dX9_entryAt_108 rfl ?_
                  refine z_getr2 X fX9_56 (zso_21 hS) (zsr_21_20 hS) rfl dX9_entryAt_109 ?_
                  refine z_aload_n X dX9_entryAt_112 rfl ?_
                  refine z_iload_n X dX9_entryAt_113 rfl ?_
                  refine z_runV X kX9_199 (tX9_rulesAt o hS hnu hn12 hmi hmi2 hdy ho) (zso_21 hS) rfl rfl (Nat.le_of_ble_eq_true rfl) ⟨by decide, by decide⟩ ⟨by decide, by decide⟩ dX9_entryAt_114 ?_
                  rintro _ g1 s1 ⟨j, rfl, h8, h9, hj⟩
                  replace h8 := h8.symm
                  subst h8
                  replace h9 := h9.symm
                  subst h9
                  obtain rfl : j0 = j := zrr_u hj0 hj
                  refine z_ialdN X (zsa_37 hS) (by omega) (by omega) dX9_entryAt_117 ?_
                  rw [hvw]
                  have hz5 := zvk_le (nI Wk) 5
                  replace hz5 : zvw (nI Wk) ≤ 5 := hz5
                  refine z_icmp_lt (tgt := 126) X dX9_entryAt_118 (by decide) (fun c_118 => ?_) (fun c_118 => ?_)
                  · skip
                    try simp (disch := omega) only [zk0, nI_leI, nI_ltI, nI_eq, zbk_notn, zbk_not, zbk_n0, zbk_0, zb_0, zb_n0, zb_not, zb_notn, Bool.not_eq_false, Bool.not_eq_true, Bool.not_eq_true', Bool.not_eq_false', decide_eq_true_eq, decide_eq_false_iff_not, Classical.not_not] at c_118
                    have hB : ¬ (p9 + m9 ≤ nd ∧ zmt (σ 24) (σ 38) k p9 m9 ∧ vw ≤ zvw (σ 23 ((k + K) % ne))) := fun z => by first | (have z2 := z.2.2; rw [eW] at z2; omega) | exact absurd (ht.mpr ⟨z.1, fun i hi => (zis_mt hm1 hm4 (hNC k (by omega))).mpr z.2.1 i (by omega)⟩) (by rw [c_95]; decide)
                    refine z_iload X dX9_entryAt_126 rfl ?_
                    refine z_istore X dX9_entryAt_128 (by decide) ?_
                    refine z_inc1 X dX9_entryAt_130 rfl (by decide) ?_
                    refine z_goto (tgt := 6) X dX9_entryAt_133 (by decide) ?_
                    first | exact ih_6 (k + 1) _ _ _ (by omega) (Or.inl ⟨k, by omega, ⟨hT.1, hT.2, hG⟩, rfl⟩) (by omega) | exact ih_6 (k + 1) _ _ _ (by omega) (by rcases hfd with ⟨j, h1, h2⟩ | ⟨h1, h2⟩; exact Or.inl ⟨j, by omega, h2⟩; exact Or.inr ⟨fun j hj => by rcases Nat.lt_or_ge j k with h | h; exact h1 j h; (have e : j = k := by omega); subst e; exact hB, h2⟩) (by omega)
                  · skip
                    try simp (disch := omega) only [zk0, nI_leI, nI_ltI, nI_eq, zbk_notn, zbk_not, zbk_n0, zbk_0, zb_0, zb_n0, zb_not, zb_notn, Bool.not_eq_false, Bool.not_eq_true, Bool.not_eq_true', Bool.not_eq_false', decide_eq_true_eq, decide_eq_false_iff_not, Classical.not_not] at c_118
                    have hG : vw ≤ zvw (σ 23 ((k + K) % ne)) := by rw [eW]; omega
                    refine z_iload X dX9_entryAt_121 rfl ?_
                    refine z_goto (tgt := 128) X dX9_entryAt_123 (by decide) ?_
                    refine z_istore X dX9_entryAt_128 (by decide) ?_
                    refine z_inc1 X dX9_entryAt_130 rfl (by decide) ?_
                    refine z_goto (tgt := 6) X dX9_entryAt_133 (by decide) ?_
                    first | exact ih_6 (k + 1) _ _ _ (by omega) (Or.inl ⟨k, by omega, ⟨hT.1, hT.2, hG⟩, rfl⟩) (by omega) | exact ih_6 (k + 1) _ _ _ (by omega) (by rcases hfd with ⟨j, h1, h2⟩ | ⟨h1, h2⟩; exact Or.inl ⟨j, by omega, h2⟩; exact Or.inr ⟨fun j hj => by rcases Nat.lt_or_ge j k with h | h; exact h1 j h; (have e : j = k := by omega); subst e; exact hB, h2⟩) (by omega)
              · skip
                try simp (disch := omega) only [zk0, nI_leI, nI_ltI, nI_eq, zbk_notn, zbk_not, zbk_n0, zbk_0, zb_0, zb_n0, zb_not, zb_notn, Bool.not_eq_false, Bool.not_eq_true, Bool.not_eq_true', Bool.not_eq_false', decide_eq_true_eq, decide_eq_false_iff_not, Classical.not_not] at c_38
                refine z_iload X dX9_entryAt_41 rfl ?_
                refine z_if_eq (tgt := 93) X dX9_entryAt_43 (by decide) (fun c_43 => ?_) (fun c_43 => ?_)
                · skip
                  try simp (disch := omega) only [zb_notn, zb_not, zb_n0, zb_0, Bool.not_eq_false, Bool.not_eq_true, Bool.not_eq_true', Bool.not_eq_false', decide_eq_true_eq, decide_eq_false_iff_not, Classical.not_not] at c_43
                  refine z_iload X dX9_entryAt_93 rfl ?_
                  refine z_if_eq (tgt := 126) X dX9_entryAt_95 (by decide) (fun c_95 => ?_) (fun c_95 => ?_)
                  · skip
                    try simp (disch := omega) only [zb_notn, zb_not, zb_n0, zb_0, Bool.not_eq_false, Bool.not_eq_true, Bool.not_eq_true', Bool.not_eq_false', decide_eq_true_eq, decide_eq_false_iff_not, Classical.not_not] at c_95
                    have hB : ¬ (p9 + m9 ≤ nd ∧ zmt (σ 24) (σ 38) k p9 m9 ∧ vw ≤ zvw (σ 23 ((k + K) % ne))) := fun z => by first | (have z2 := z.2.2; rw [eW] at z2; omega) | exact absurd (ht.mpr ⟨z.1, fun i hi => (zis_mt hm1 hm4 (hNC k (by omega))).mpr z.2.1 i (by omega)⟩) (by rw [c_95]; decide)
                    refine z_iload X dX9_entryAt_126 rfl ?_
                    refine z_istore X dX9_entryAt_128 (by decide) ?_
                    refine z_inc1 X dX9_entryAt_130 rfl (by decide) ?_
                    refine z_goto (tgt := 6) X dX9_entryAt_133 (by decide) ?_
                    first | exact ih_6 (k + 1) _ _ _ (by omega) (Or.inl ⟨k, by omega, ⟨hT.1, hT.2, hG⟩, rfl⟩) (by omega) | exact ih_6 (k + 1) _ _ _ (by omega) (by rcases hfd with ⟨j, h1, h2⟩ | ⟨h1, h2⟩; exact Or.inl ⟨j, by omega, h2⟩; exact Or.inr ⟨fun j hj => by rcases Nat.lt_or_ge j k with h | h; exact h1 j h; (have e : j = k := by omega); subst e; exact hB, h2⟩) (by omega)
                  · skip
                    try simp (disch := omega) only [zb_notn, zb_not, zb_n0, zb_0, Bool.not_eq_false, Bool.not_eq_true, Bool.not_eq_true', Bool.not_eq_false', decide_eq_true_eq, decide_eq_false_iff_not, Classical.not_not] at c_95
                    have hqe : q = 4 := by first | omega | (exfalso; rw [c_43] at c_95; exact absurd c_95 (by decide))
                    subst hqe
                    have hT : p9 + m9 ≤ nd ∧ zmt (σ 24) (σ 38) k p9 m9 := ⟨(ht.mp c_95).1, (zis_mt hm1 hm4 (hNC k (by omega))).mp (ht.mp c_95).2⟩
                    refine z_aload_n X dX9_entryAt_98 rfl ?_
                    refine z_iload X dX9_entryAt_99 rfl ?_
                    refine z_iload_n X dX9_entryAt_101 rfl ?_
                    refine z_runV X kX9_205 (tX9_sentAs (o := o) k hS hP (by omega)) (zso_21 hS) rfl rfl (Nat.le_of_ble_eq_true rfl) ⟨by decide, by decide⟩ ⟨by decide, by decide⟩ dX9_entryAt_102 ?_
                    rintro _ g1 s1 ⟨rfl, h8, h9⟩
                    replace h8 := h8.symm
                    subst h8
                    replace h9 := h9.symm
                    subst h9
                    have hmod := Nat.mod_lt (k + K) (show 0 < ne by omega)
                    obtain ⟨Wk, hWk, eW⟩ := hC _ hmod
                    rw [eW]
                    refine z_runS X kX9_208 (tX9_vowelsOf _ (by omega)) rfl rfl (Nat.le_of_ble_eq_true rfl) ⟨by decide, by decide⟩ ⟨by decide, by decide⟩ dX9_entryAt_105 ?_
                    rintro _ g1 s1 ⟨rfl, h8, h9⟩
                    replace h8 := h8.symm
                    subst h8
                    replace h9 := h9.symm
                    subst h9
                    refine z_aload_n X dX9_entryAt_108 rfl ?_
                    refine z_getr2 X fX9_56 (zso_21 hS) (zsr_21_20 hS) rfl dX9_entryAt_109 ?_
                    refine z_aload_n X dX9_entryAt_112 rfl ?_
                    refine z_iload_n X dX9_entryAt_113 rfl ?_
                    refine z_runV X kX9_199 (tX9_rulesAt o hS hnu hn12 hmi hmi2 hdy ho) (zso_21 hS) rfl rfl (Nat.le_of_ble_eq_true rfl) ⟨by decide, by decide⟩ ⟨by decide, by decide⟩ dX9_entryAt_114 ?_
                    rintro _ g1 s1 ⟨j, rfl, h8, h9, hj⟩
                    replace h8 := h8.symm
                    subst h8
                    replace h9 := h9.symm
                    subst h9
                    obtain rfl : j0 = j := zrr_u hj0 hj
                    refine z_ialdN X (zsa_37 hS) (by omega) (by omega) dX9_entryAt_117 ?_
                    rw [hvw]
                    have hz5 := zvk_le (nI Wk) 5
                    replace hz5 : zvw (nI Wk) ≤ 5 := hz5
                    refine z_icmp_lt (tgt := 126) X dX9_entryAt_118 (by decide) (fun c_118 => ?_) (fun c_118 => ?_)
                    · skip
                      try simp (disch := omega) only [zk0, nI_leI, nI_ltI, nI_eq, zbk_notn, zbk_not, zbk_n0, zbk_0, zb_0, zb_n0, zb_not, zb_notn, Bool.not_eq_false, Bool.not_eq_true, Bool.not_eq_true', Bool.not_eq_false', decide_eq_true_eq, decide_eq_false_iff_not, Classical.not_not] at c_118
                      have hB : ¬ (p9 + m9 ≤ nd ∧ zmt (σ 24) (σ 38) k p9 m9 ∧ vw ≤ zvw (σ 23 ((k + K) % ne))) := fun z => by first | (have z2 := z.2.2; rw [eW] at z2; omega) | exact absurd (ht.mpr ⟨z.1, fun i hi => (zis_mt hm1 hm4 (hNC k (by omega))).mpr z.2.1 i (by omega)⟩) (by rw [c_95]; decide)
                      refine z_iload X dX9_entryAt_126 rfl ?_
                      refine z_istore X dX9_entryAt_128 (by decide) ?_
                      refine z_inc1 X dX9_entryAt_130 rfl (by decide) ?_
                      refine z_goto (tgt := 6) X dX9_entryAt_133 (by decide) ?_
                      first | exact ih_6 (k + 1) _ _ _ (by omega) (Or.inl ⟨k, by omega, ⟨hT.1, hT.2, hG⟩, rfl⟩) (by omega) | exact ih_6 (k + 1) _ _ _ (by omega) (by rcases hfd with ⟨j, h1, h2⟩ | ⟨h1, h2⟩; exact Or.inl ⟨j, by omega, h2⟩; exact Or.inr ⟨fun j hj => by rcases Nat.lt_or_ge j k with h | h; exact h1 j h; (have e : j = k := by omega); subst e; exact hB, h2⟩) (by omega)
                    · skip
                      try simp (disch := omega) only [zk0, nI_leI, nI_ltI, nI_eq, zbk_notn, zbk_not, zbk_n0, zbk_0, zb_0, zb_n0, zb_not, zb_notn, Bool.not_eq_false, Bool.not_eq_true, Bool.not_eq_true', Bool.not_eq_false', decide_eq_true_eq, decide_eq_false_iff_not, Classical.not_not] at c_118
                      have hG : vw ≤ zvw (σ 23 ((k + K) % ne)) := by rw [eW]; omega
                      refine z_iload X dX9_entryAt_121 rfl ?_
                      refine z_goto (tgt := 128) X dX9_entryAt_123 (by decide) ?_
                      refine z_istore X dX9_entryAt_128 (by decide) ?_
                      refine z_inc1 X dX9_entryAt_130 rfl (by decide) ?_
                      refine z_goto (tgt := 6) X dX9_entryAt_133 (by decide) ?_
                      first | exact ih_6 (k + 1) _ _ _ (by omega) (Or.inl ⟨k, by omega, ⟨hT.1, hT.2, hG⟩, rfl⟩) (by omega) | exact ih_6 (k + 1) _ _ _ (by omega) (by rcases hfd with ⟨j, h1, h2⟩ | ⟨h1, h2⟩; exact Or.inl ⟨j, by omega, h2⟩; exact Or.inr ⟨fun j hj => by rcases Nat.lt_or_ge j k with h | h; exact h1 j h; (have e : j = k := by omega); subst e; exact hB, h2⟩) (by omega)
                · skip
                  try simp (disch := omega) only [zb_notn, zb_not, zb_n0, zb_0, Bool.not_eq_false, Bool.not_eq_true, Bool.not_eq_true', Bool.not_eq_false', decide_eq_true_eq, decide_eq_false_iff_not, Classical.not_not] at c_43
                  have hpm := (ht.mp c_43).1
                  refine z_aload_n X dX9_entryAt_46 rfl ?_
                  refine z_getr2 X fX9_16 (zso_21 hS) (zsr_21_4 hS) rfl dX9_entryAt_47 ?_
                  refine z_iconst (v := nI 4) X (by decide) dX9_entryAt_50 ?_
                  refine z_iload X dX9_entryAt_51 rfl ?_
                  refine z_imulN X dX9_entryAt_53 ?_
                  refine z_iload X dX9_entryAt_54 rfl ?_
                  refine z_iaddN X dX9_entryAt_56 ?_
                  refine z_ialdN X (zsa_24 hS) (by omega) (by omega) dX9_entryAt_57 ?_
                  refine z_iload X dX9_entryAt_58 rfl ?_
                  refine z_iload_n X dX9_entryAt_60 rfl ?_
                  refine z_icmp_ge (tgt := 76) X dX9_entryAt_61 (by decide) (fun c_61 => ?_) (fun c_61 => ?_)
                  · skip
                    try simp (disch := omega) only [zk0, nI_leI, nI_ltI, nI_eq, zbk_notn, zbk_not, zbk_n0, zbk_0, zb_0, zb_n0, zb_not, zb_notn, Bool.not_eq_false, Bool.not_eq_true, Bool.not_eq_true', Bool.not_eq_false', decide_eq_true_eq, decide_eq_false_iff_not, Classical.not_not] at c_61
                    have h61 : ¬ q < m9 := by omega
                    refine z_iconst (v := -1) X (by decide) dX9_entryAt_76 ?_
                    refine z_icmp_ne (tgt := 84) X dX9_entryAt_77 (by decide) (fun c_77 => ?_) (fun c_77 => ?_)
                    · skip
                      have hN : ¬ (p9 + m9 ≤ nd ∧ ∀ i, i < q + 1 → σ 24 (4 * k + i) = if i < m9 then σ 38 (p9 + i) else -1) := fun z => by have z2 := z.2 q (by omega); first | (rw [if_pos h61] at z2; exact c_77 z2) | (rw [if_neg h61] at z2; exact c_77 z2)
                      refine z_iconst (v := nI 0) X (by decide) dX9_entryAt_84 ?_
                      refine z_istore X dX9_entryAt_85 (by decide) ?_
                      refine z_inc1 X dX9_entryAt_87 rfl (by decide) ?_
                      refine z_goto (tgt := 35) X dX9_entryAt_90 (by decide) ?_
                      first | exact ih_35 (q + 1) true (by omega) ⟨fun _ => hY, fun _ => rfl⟩ (by omega) | exact ih_35 (q + 1) false (by omega) ⟨fun z => absurd z (by decide), fun z => absurd z hN⟩ (by omega)
                    · skip
                      have hY : p9 + m9 ≤ nd ∧ ∀ i, i < q + 1 → σ 24 (4 * k + i) = if i < m9 then σ 38 (p9 + i) else -1 := ⟨hpm, fun i hi => by rcases Nat.lt_or_ge i q with h | h; exact (ht.mp c_43).2 i h; (have e : i = q := by omega); subst e; first | (rw [if_pos h61]; exact c_77) | (rw [if_neg h61]; exact c_77)⟩
                      refine z_iconst (v := nI 1) X (by decide) dX9_entryAt_80 ?_
                      refine z_goto (tgt := 85) X dX9_entryAt_81 (by decide) ?_
                      refine z_istore X dX9_entryAt_85 (by decide) ?_
                      refine z_inc1 X dX9_entryAt_87 rfl (by decide) ?_
                      refine z_goto (tgt := 35) X dX9_entryAt_90 (by decide) ?_
                      first | exact ih_35 (q + 1) true (by omega) ⟨fun _ => hY, fun _ => rfl⟩ (by omega) | exact ih_35 (q + 1) false (by omega) ⟨fun z => absurd z (by decide), fun z => absurd z hN⟩ (by omega)
                  · skip
                    try simp (disch := omega) only [zk0, nI_leI, nI_ltI, nI_eq, zbk_notn, zbk_not, zbk_n0, zbk_0, zb_0, zb_n0, zb_not, zb_notn, Bool.not_eq_false, Bool.not_eq_true, Bool.not_eq_true', Bool.not_eq_false', decide_eq_true_eq, decide_eq_false_iff_not, Classical.not_not] at c_61
                    have h61 : q < m9 := by omega
                    refine z_aload_n X dX9_entryAt_64 rfl ?_
                    refine z_getr2 X fX9_59 (zso_21 hS) (zsr_21_21 hS) rfl dX9_entryAt_65 ?_
                    refine z_iload_n X dX9_entryAt_68 rfl ?_
                    refine z_iload X dX9_entryAt_69 rfl ?_
                    refine z_iaddN X dX9_entryAt_71 ?_
                    refine z_ialdN X (zsa_38 hS) (by omega) (by omega) dX9_entryAt_72 ?_
                    refine z_goto (tgt := 77) X dX9_entryAt_73 (by decide) ?_
                    refine z_icmp_ne (tgt := 84) X dX9_entryAt_77 (by decide) (fun c_77 => ?_) (fun c_77 => ?_)
                    · skip
                      have hN : ¬ (p9 + m9 ≤ nd ∧ ∀ i, i < q + 1 → σ 24 (4 * k + i) = if i < m9 then σ 38 (p9 + i) else -1) := fun z => by have z2 := z.2 q (by omega); first | (rw [if_pos h61] at z2; exact c_77 z2) | (rw [if_neg h61] at z2; exact c_77 z2)
                      refine z_iconst (v := nI 0) X (by decide) dX9_entryAt_84 ?_
                      refine z_istore X dX9_entryAt_85 (by decide) ?_
                      refine z_inc1 X dX9_entryAt_87 rfl (by decide) ?_
                      refine z_goto (tgt := 35) X dX9_entryAt_90 (by decide) ?_
                      first | exact ih_35 (q + 1) true (by omega) ⟨fun _ => hY, fun _ => rfl⟩ (by omega) | exact ih_35 (q + 1) false (by omega) ⟨fun z => absurd z (by decide), fun z => absurd z hN⟩ (by omega)
                    · skip
                      have hY : p9 + m9 ≤ nd ∧ ∀ i, i < q + 1 → σ 24 (4 * k + i) = if i < m9 then σ 38 (p9 + i) else -1 := ⟨hpm, fun i hi => by rcases Nat.lt_or_ge i q with h | h; exact (ht.mp c_43).2 i h; (have e : i = q := by omega); subst e; first | (rw [if_pos h61]; exact c_77) | (rw [if_neg h61]; exact c_77)⟩
                      refine z_iconst (v := nI 1) X (by decide) dX9_entryAt_80 ?_
                      refine z_goto (tgt := 85) X dX9_entryAt_81 (by decide) ?_
                      refine z_istore X dX9_entryAt_85 (by decide) ?_
                      refine z_inc1 X dX9_entryAt_87 rfl (by decide) ?_
                      refine z_goto (tgt := 35) X dX9_entryAt_90 (by decide) ?_
                      first | exact ih_35 (q + 1) true (by omega) ⟨fun _ => hY, fun _ => rfl⟩ (by omega) | exact ih_35 (q + 1) false (by omega) ⟨fun z => absurd z (by decide), fun z => absurd z hN⟩ (by omega)
          refine z_iconst (v := nI 0) X (by decide) dX9_entryAt_32 ?_
          refine z_istore X dX9_entryAt_33 (by decide) ?_
          exact loop_35 (4 - 0 + 1) 0 _ (Nat.zero_le _) ht0 (by omega)
  refine z_iconst (v := -1) X (by decide) dX9_entryAt_0 ?_
  refine z_istore X dX9_entryAt_1 (by decide) ?_
  refine z_iconst (v := nI 0) X (by decide) dX9_entryAt_3 ?_
  refine z_istore X dX9_entryAt_4 (by decide) ?_
  exact loop_6 (ne - 0 + 1) 0 _ _ _ (Nat.zero_le _) (Or.inr ⟨fun j hj => absurd hj (Nat.not_lt_zero _), rfl⟩) (by omega)
