/-! contracts of the reference: asking of messages -/
theorem zin_r {y : Int32} {n : Nat} (hn : n < 2 ^ 30) : (y < 0 ∨ nI n - 1 < y) ↔ zin y n = false := by
  have h := zout (i := y) hn
  cases hz : zin y n
  · rw [hz] at h
    exact ⟨fun _ => rfl, fun _ => of_decide_eq_true h⟩
  · rw [hz] at h
    exact ⟨fun q => absurd q (of_decide_eq_false h), fun q => absurd q (by decide)⟩
theorem zin_rt {y : Int32} {n : Nat} (hn : n < 2 ^ 30) (h : ¬ (y < 0 ∨ nI n - 1 < y)) : zin y n = true := by
  cases hz : zin y n
  · exact absurd ((zin_r hn).mpr hz) h
  · rfl
noncomputable def zyw (nm : Nat) (W : Nat → Nat) (ok : Nat → Nat → Prop) (x y a b : Int32) : Nat := if ¬ (zin x nm = true ∧ zin y (W (zn x)) = true) then 1 else if (a < 0 ∨ 4 < a) ∨ (b < 0 ∨ 25 < b) then 2 else zif (¬ ok (zn x) (zn y)) 3 0
def zyd (nm : Nat) (W : Nat → Nat) (x y : Int32) : Nat := if zin x nm = true ∧ zin y (W (zn x)) = true then 0 else 1
set_option maxHeartbeats 4000000 in
set_option maxRecDepth 100000 in
theorem tX9_isCodeAt {l : Launch} {D : va_G} {cy : Nat → ClassId} {z0 : Nat} {g : zSh} {σ : zIn} (m9 k9 : Nat) (hS : zS g) (hm : m9 < 60) (hk : k9 < 24) : z_Ct l D cy z0 MX9_isCodeAt [.ref (g.2.1 21), .int (nI m9), .int (nI k9)] g σ (zI (zb (decide (0 ≤ σ 50 (24 * m9 + k9)))) g σ) := by
  refine z_ofM (by decide) (z_cr (z_ci (z_ci z_c0))) (Nat.le_of_ble_eq_true rfl) ?_
  intro p e s m args below meth c X
  refine z_aload_n X dX9_isCodeAt_0 rfl ?_
  refine z_getr2 X fX9_95 (zso_21 hS) (zsr_21_37 hS) rfl dX9_isCodeAt_1 ?_
  refine z_bipush (v := nI 24) X (by decide) dX9_isCodeAt_4 ?_
  refine z_iload_n X dX9_isCodeAt_6 rfl ?_
  refine z_imulN X dX9_isCodeAt_7 ?_
  refine z_iload_n X dX9_isCodeAt_8 rfl ?_
  refine z_iaddN X dX9_isCodeAt_9 ?_
  refine z_ialdN X (zsa_50 hS) (by omega) (by omega) dX9_isCodeAt_10 ?_
  refine z_if_lt (tgt := 18) X dX9_isCodeAt_11 (by decide) (fun c_11 => ?_) (fun c_11 => ?_)
  · skip
    refine z_iconst (v := nI 0) X (by decide) dX9_isCodeAt_18 ?_
    refine z_zret X (by decide) (by decide) rfl (by first | exact Or.inl rfl | exact Or.inr rfl | exact zb_01 _ | assumption) dX9_isCodeAt_19 ?_
    first | exact ⟨by rw [decide_eq_true (Int32.not_lt.mp c_11)]; rfl, rfl, rfl⟩ | exact ⟨by rw [decide_eq_false (Int32.not_le.mpr c_11)]; rfl, rfl, rfl⟩
  · skip
    refine z_iconst (v := nI 1) X (by decide) dX9_isCodeAt_14 ?_
    refine z_goto (tgt := 19) X dX9_isCodeAt_15 (by decide) ?_
    refine z_zret X (by decide) (by decide) rfl (by first | exact Or.inl rfl | exact Or.inr rfl | exact zb_01 _ | assumption) dX9_isCodeAt_19 ?_
    first | exact ⟨by rw [decide_eq_true (Int32.not_lt.mp c_11)]; rfl, rfl, rfl⟩ | exact ⟨by rw [decide_eq_false (Int32.not_le.mpr c_11)]; rfl, rfl, rfl⟩

set_option maxHeartbeats 4000000 in
set_option maxRecDepth 100000 in
theorem tX9_account {l : Launch} {D : va_G} {cy : Nat → ClassId} {z0 : Nat} {g : zSh} {σ : zIn} {no : Nat} (xq : Int32) (hS : zS g) (hno : σ 21 5 = nI no) (hn8 : no ≤ 8) : z_Ct l D cy z0 MX9_account [.ref (g.2.1 21), .int xq] g σ (fun v g' σ' => g' = g ∧ ∃ r, v = some (.int r) ∧ zMP (zx_in no xq) σ σ' (∃ o, o < no ∧ xq = nI o ∧ r = σ 28 o ∧ σ' = z_up σ 21 48 0)) := by
  refine z_ofM (by decide) (z_cr (z_ci z_c0)) (Nat.le_of_ble_eq_true rfl) ?_
  intro p e s m args below meth c X
  refine z_aload_n X dX9_account_0 rfl ?_
  refine z_aload_n X dX9_account_1 rfl ?_
  refine z_iload_n X dX9_account_2 rfl ?_
  refine z_runV X kX9_184 (tX9_isOffice _ hS hno (by omega)) (zso_21 hS) rfl rfl (Nat.le_of_ble_eq_true rfl) ⟨by decide, by decide⟩ ⟨by decide, by decide⟩ dX9_account_3 ?_
  rintro _ g1 s1 ⟨rfl, h8, h9⟩
  replace h8 := h8.symm
  subst h8
  replace h9 := h9.symm
  subst h9
  obtain ⟨b6, hb6⟩ : ∃ q : Bool, q = zin xq no := ⟨_, rfl⟩
  rw [← hb6]
  cases b6
  · skip
    skip
    refine z_runV X kX9_150 (tX9_asks false hS) (zso_21 hS) rfl rfl (Nat.le_of_ble_eq_true rfl) ⟨by decide, by decide⟩ ⟨by decide, by decide⟩ dX9_account_6 ?_
    rintro _ g1 s1 ⟨rfl, h8, h9⟩
    replace h8 := h8.symm
    subst h8
    replace h9 := h9.symm
    subst h9
    refine z_if_eq (tgt := 21) X dX9_account_9 (by decide) (fun c_9 => ?_) (fun c_9 => ?_)
    · skip
      refine z_iconst (v := 0) X (by decide) dX9_account_21 ?_
      refine z_iret X (by decide) (by decide) rfl dX9_account_22 ?_
      first | exact ⟨rfl, _, rfl, Or.inr ⟨by unfold zx_in; rw [if_pos hb6.symm], o, ho, rfl, rfl, hτ⟩⟩ | exact ⟨rfl, _, rfl, zMP_1 (j := 0) (by unfold zx_in; rw [← hb6]; rfl) rfl⟩
    · exact absurd rfl c_9
  · skip
    skip
    refine z_runV X kX9_150 (tX9_asks true hS) (zso_21 hS) rfl rfl (Nat.le_of_ble_eq_true rfl) ⟨by decide, by decide⟩ ⟨by decide, by decide⟩ dX9_account_6 ?_
    rintro _ g1 s1 ⟨rfl, h8, h9⟩
    replace h8 := h8.symm
    subst h8
    replace h9 := h9.symm
    subst h9
    refine z_if_eq (tgt := 21) X dX9_account_9 (by decide) (fun c_9 => ?_) (fun c_9 => ?_)
    · exact absurd c_9 (by decide)
    · skip
      obtain ⟨o, ho, rfl⟩ := zin_t hb6.symm (by omega)
      obtain ⟨τ, hτ⟩ : ∃ q, q = z_up σ 21 48 0 := ⟨_, rfl⟩
      rw [show z_up σ 21 48 (if true = true then 0 else 1) = τ from hτ.symm]
      have eτ : ∀ i, i ≠ 21 → τ i = σ i := fun i h => by rw [hτ, z_up_ne h]
      have eτ1 : ∀ k, k ≠ 48 → τ 21 k = σ 21 k := fun k h => by rw [hτ, z_up_app, if_pos rfl, if_neg h]
      refine z_aload_n X dX9_account_12 rfl ?_
      refine z_getr2 X fX9_29 (zso_21 hS) (zsr_21_9 hS) rfl dX9_account_13 ?_
      refine z_iload_n X dX9_account_16 rfl ?_
      refine z_ialdN X (zsa_28 hS) (by omega) (by omega) dX9_account_17 ?_
      rw [eτ 28 (by decide)]
      refine z_goto (tgt := 22) X dX9_account_18 (by decide) ?_
      refine z_iret X (by decide) (by decide) rfl dX9_account_22 ?_
      first | exact ⟨rfl, _, rfl, Or.inr ⟨by unfold zx_in; rw [if_pos hb6.symm], o, ho, rfl, rfl, hτ⟩⟩ | exact ⟨rfl, _, rfl, zMP_1 (j := 0) (by unfold zx_in; rw [← hb6]; rfl) rfl⟩

set_option maxHeartbeats 4000000 in
set_option maxRecDepth 100000 in
theorem tX9_accountAnew {l : Launch} {D : va_G} {cy : Nat → ClassId} {z0 : Nat} {g : zSh} {σ : zIn} {no : Nat} (xq : Int32) (hS : zS g) (hno : σ 21 5 = nI no) (hn8 : no ≤ 8) : z_Ct l D cy z0 MX9_accountAnew [.ref (g.2.1 21), .int xq] g σ (fun v g' σ' => g' = g ∧ ∃ r, v = some (.int r) ∧ zMP (zx_in no xq) σ σ' (∃ o, o < no ∧ xq = nI o ∧ r = σ 28 o ∧ σ' = z_up σ 21 48 0)) := by
  refine z_ofM (by decide) (z_cr (z_ci z_c0)) (Nat.le_of_ble_eq_true rfl) ?_
  intro p e s m args below meth c X
  refine z_aload_n X dX9_accountAnew_0 rfl ?_
  refine z_aload_n X dX9_accountAnew_1 rfl ?_
  refine z_iload_n X dX9_accountAnew_2 rfl ?_
  refine z_runV X kX9_184 (tX9_isOffice _ hS hno (by omega)) (zso_21 hS) rfl rfl (Nat.le_of_ble_eq_true rfl) ⟨by decide, by decide⟩ ⟨by decide, by decide⟩ dX9_accountAnew_3 ?_
  rintro _ g1 s1 ⟨rfl, h8, h9⟩
  replace h8 := h8.symm
  subst h8
  replace h9 := h9.symm
  subst h9
  obtain ⟨b6, hb6⟩ : ∃ q : Bool, q = zin xq no := ⟨_, rfl⟩
  rw [← hb6]
  cases b6
  · skip
    skip
    refine z_runV X kX9_150 (tX9_asks false hS) (zso_21 hS) rfl rfl (Nat.le_of_ble_eq_true rfl) ⟨by decide, by decide⟩ ⟨by decide, by decide⟩ dX9_accountAnew_6 ?_
    rintro _ g1 s1 ⟨rfl, h8, h9⟩
    replace h8 := h8.symm
    subst h8
    replace h9 := h9.symm
    subst h9
    refine z_if_eq (tgt := 21) X dX9_accountAnew_9 (by decide) (fun c_9 => ?_) (fun c_9 => ?_)
    · skip
      refine z_iconst (v := 0) X (by decide) dX9_accountAnew_21 ?_
      refine z_iret X (by decide) (by decide) rfl dX9_accountAnew_22 ?_
      first | exact ⟨rfl, _, rfl, Or.inr ⟨by unfold zx_in; rw [if_pos hb6.symm], o, ho, rfl, rfl, hτ⟩⟩ | exact ⟨rfl, _, rfl, zMP_1 (j := 0) (by unfold zx_in; rw [← hb6]; rfl) rfl⟩
    · exact absurd rfl c_9
  · skip
    skip
    refine z_runV X kX9_150 (tX9_asks true hS) (zso_21 hS) rfl rfl (Nat.le_of_ble_eq_true rfl) ⟨by decide, by decide⟩ ⟨by decide, by decide⟩ dX9_accountAnew_6 ?_
    rintro _ g1 s1 ⟨rfl, h8, h9⟩
    replace h8 := h8.symm
    subst h8
    replace h9 := h9.symm
    subst h9
    refine z_if_eq (tgt := 21) X dX9_accountAnew_9 (by decide) (fun c_9 => ?_) (fun c_9 => ?_)
    · exact absurd c_9 (by decide)
    · skip
      obtain ⟨o, ho, rfl⟩ := zin_t hb6.symm (by omega)
      obtain ⟨τ, hτ⟩ : ∃ q, q = z_up σ 21 48 0 := ⟨_, rfl⟩
      rw [show z_up σ 21 48 (if true = true then 0 else 1) = τ from hτ.symm]
      have eτ : ∀ i, i ≠ 21 → τ i = σ i := fun i h => by rw [hτ, z_up_ne h]
      have eτ1 : ∀ k, k ≠ 48 → τ 21 k = σ 21 k := fun k h => by rw [hτ, z_up_app, if_pos rfl, if_neg h]
      refine z_aload_n X dX9_accountAnew_12 rfl ?_
      refine z_getr2 X fX9_29 (zso_21 hS) (zsr_21_9 hS) rfl dX9_accountAnew_13 ?_
      refine z_iload_n X dX9_accountAnew_16 rfl ?_
      refine z_ialdN X (zsa_28 hS) (by omega) (by omega) dX9_accountAnew_17 ?_
      rw [eτ 28 (by decide)]
      refine z_goto (tgt := 22) X dX9_accountAnew_18 (by decide) ?_
      refine z_iret X (by decide) (by decide) rfl dX9_accountAnew_22 ?_
      first | exact ⟨rfl, _, rfl, Or.inr ⟨by unfold zx_in; rw [if_pos hb6.symm], o, ho, rfl, rfl, hτ⟩⟩ | exact ⟨rfl, _, rfl, zMP_1 (j := 0) (by unfold zx_in; rw [← hb6]; rfl) rfl⟩

set_option maxHeartbeats 4000000 in
set_option maxRecDepth 100000 in
theorem tX9_rest {l : Launch} {D : va_G} {cy : Nat → ClassId} {z0 : Nat} {g : zSh} {σ : zIn} {mi : Nat} (xq : Int32) (hS : zS g) (hmi : σ 21 47 = nI mi) (hmi2 : mi ≤ 1000000) : z_Ct l D cy z0 MX9_rest [.ref (g.2.1 21), .int xq] g σ (fun v g' σ' => g' = g ∧ ∃ r, v = some (.int r) ∧ zMP (zx_rest mi xq) σ σ' (r = nI (mi + 1440 * zn xq) ∧ mi + 1440 * zn xq ≤ 1000000 ∧ σ' = z_up (z_up σ 21 48 0) 21 47 (nI (mi + 1440 * zn xq)))) := by
  refine z_ofM (by decide) (z_cr (z_ci z_c0)) (Nat.le_of_ble_eq_true rfl) ?_
  intro p e s m args below meth c X
  refine z_aload_n X dX9_rest_0 rfl ?_
  refine z_iload_n X dX9_rest_1 rfl ?_
  refine z_iconst (v := 1) X (by decide) dX9_rest_2 ?_
  refine z_bipush (v := 100) X (by decide) dX9_rest_3 ?_
  refine z_runS X kX9_129 (tX9_inN _ _ _) rfl rfl (Nat.le_of_ble_eq_true rfl) ⟨by decide, by decide⟩ ⟨by decide, by decide⟩ dX9_rest_5 ?_
  rintro _ g1 s1 ⟨rfl, h8, h9⟩
  replace h8 := h8.symm
  subst h8
  replace h9 := h9.symm
  subst h9
  obtain ⟨b8, hb8⟩ : ∃ q : Bool, q = (!decide (xq < 1 ∨ 100 < xq)) := ⟨_, rfl⟩
  rw [← hb8]
  cases b8
  · skip
    skip
    refine z_runV X kX9_150 (tX9_asks false hS) (zso_21 hS) rfl rfl (Nat.le_of_ble_eq_true rfl) ⟨by decide, by decide⟩ ⟨by decide, by decide⟩ dX9_rest_8 ?_
    rintro _ g1 s1 ⟨rfl, h8, h9⟩
    replace h8 := h8.symm
    subst h8
    replace h9 := h9.symm
    subst h9
    refine z_if_ne (tgt := 16) X dX9_rest_11 (by decide) (fun c_11 => ?_) (fun c_11 => ?_)
    · exact absurd rfl c_11
    · skip
      refine z_iconst (v := 0) X (by decide) dX9_rest_14 ?_
      refine z_iret X (by decide) (by decide) rfl dX9_rest_15 ?_
      exact ⟨rfl, _, rfl, zMP_1 (j := 0) (by unfold zx_rest; rw [if_pos (znd_f hb8)]) rfl⟩
  · skip
    skip
    refine z_runV X kX9_150 (tX9_asks true hS) (zso_21 hS) rfl rfl (Nat.le_of_ble_eq_true rfl) ⟨by decide, by decide⟩ ⟨by decide, by decide⟩ dX9_rest_8 ?_
    rintro _ g1 s1 ⟨rfl, h8, h9⟩
    replace h8 := h8.symm
    subst h8
    replace h9 := h9.symm
    subst h9
    refine z_if_ne (tgt := 16) X dX9_rest_11 (by decide) (fun c_11 => ?_) (fun c_11 => ?_)
    · skip
      have hx9 := znd_t hb8
      obtain ⟨k, hk1, hk2, rfl⟩ := zrg_k (n := 100) (by decide) hx9
      have ek : zn (nI k) = k := zn_nI (by omega)
      obtain ⟨τ, hτ⟩ : ∃ q, q = z_up σ 21 48 0 := ⟨_, rfl⟩
      rw [show z_up σ 21 48 (if true = true then 0 else 1) = τ from hτ.symm]
      have eτ : ∀ i, i ≠ 21 → τ i = σ i := fun i h => by rw [hτ, z_up_ne h]
      have eτ1 : ∀ k, k ≠ 48 → τ 21 k = σ 21 k := fun k h => by rw [hτ, z_up_app, if_pos rfl, if_neg h]
      have hmτ : τ 21 47 = nI mi := (eτ1 47 (by decide)).trans hmi
      refine z_aload_n X dX9_rest_16 rfl ?_
      refine z_geti X fX9_196 (zso_21 hS) rfl dX9_rest_17 ?_
      rw [hmτ]
      refine z_sipush (v := nI 1440) X (by decide) dX9_rest_20 ?_
      refine z_iload_n X dX9_rest_23 rfl ?_
      refine z_imulN X dX9_rest_24 ?_
      refine z_iaddN X dX9_rest_25 ?_
      refine z_ldc X qX9_217 dX9_rest_26 ?_
      rw [zkM]
      refine z_icmp_le (tgt := 37) X dX9_rest_28 (by decide) (fun c_28 => ?_) (fun c_28 => ?_)
      · skip
        try simp (disch := omega) only [zk0, nI_leI, nI_ltI, nI_eq, zbk_notn, zbk_not, zbk_n0, zbk_0, zb_0, zb_n0, zb_not, zb_notn, Bool.not_eq_false, Bool.not_eq_true, Bool.not_eq_true', Bool.not_eq_false', decide_eq_true_eq, decide_eq_false_iff_not, Classical.not_not] at c_28
        refine z_aload_n X dX9_rest_37 rfl ?_
        refine z_dup X rfl dX9_rest_38 ?_
        refine z_geti X fX9_196 (zso_21 hS) rfl dX9_rest_39 ?_
        rw [hmτ]
        refine z_sipush (v := nI 1440) X (by decide) dX9_rest_42 ?_
        refine z_iload_n X dX9_rest_45 rfl ?_
        refine z_imulN X dX9_rest_46 ?_
        refine z_iaddN X dX9_rest_47 ?_
        refine z_puti X fX9_196 (zso_21 hS) rfl dX9_rest_48 ?_
        refine z_aload_n X dX9_rest_51 rfl ?_
        refine z_geti X fX9_196 (zso_21 hS) rfl dX9_rest_52 ?_
        rw [z_up_app, if_pos rfl, if_pos rfl]
        refine z_iret X (by decide) (by decide) rfl dX9_rest_55 ?_
        rw [ek]
        exact ⟨rfl, _, rfl, Or.inr ⟨by unfold zx_rest; rw [if_neg hx9, if_neg (by rw [ek]; omega)], rfl, by omega, by rw [hτ]⟩⟩
      · skip
        try simp (disch := omega) only [zk0, nI_leI, nI_ltI, nI_eq, zbk_notn, zbk_not, zbk_n0, zbk_0, zb_0, zb_n0, zb_not, zb_notn, Bool.not_eq_false, Bool.not_eq_true, Bool.not_eq_true', Bool.not_eq_false', decide_eq_true_eq, decide_eq_false_iff_not, Classical.not_not] at c_28
        refine z_aload_n X dX9_rest_31 rfl ?_
        refine z_iconst (v := 2) X (by decide) dX9_rest_32 ?_
        refine z_runV X kX9_154 (tX9_fails _ hS) (zso_21 hS) rfl rfl (Nat.le_of_ble_eq_true rfl) ⟨by decide, by decide⟩ ⟨by decide, by decide⟩ dX9_rest_33 ?_
        rintro _ g1 s1 ⟨rfl, h8, h9⟩
        replace h8 := h8.symm
        subst h8
        replace h9 := h9.symm
        subst h9
        refine z_iret X (by decide) (by decide) rfl dX9_rest_36 ?_
        exact ⟨rfl, _, rfl, by rw [hτ]; exact zMP_2 (j := 1) (by unfold zx_rest; rw [if_neg hx9, if_pos (by rw [ek]; omega)]) rfl⟩
    · exact absurd c_11 (by decide)

def zofR (σ : zIn) (m : Nat) : Nat → Int32
  | 0 => σ 44 m
  | 1 => σ 45 m
  | 2 => σ 46 m
  | 3 => σ 47 m
  | 4 => zmc σ m
  | _ => σ 48 m
set_option maxHeartbeats 4000000 in
set_option maxRecDepth 100000 in
theorem tX9_ofMessage {l : Launch} {D : va_G} {cy : Nat → ClassId} {z0 : Nat} {g : zSh} {σ : zIn} {nm : Nat} (xq yq : Int32) (hS : zS g) (hnm : σ 21 27 = nI nm) (hn60 : nm ≤ 60) (hst : ∀ m, m < nm → σ 44 m = 0 → ∃ q, q < 8 ∧ σ 54 m = nI q) : z_Ct l D cy z0 MX9_ofMessage [.ref (g.2.1 21), .int xq, .int yq] g σ (fun v g' σ' => g' = g ∧ ∃ r, v = some (.int r) ∧ zMP (zx_of nm xq yq) σ σ' (∃ m j, m < nm ∧ xq = nI m ∧ j < 6 ∧ yq = nI j ∧ r = zofR σ m j ∧ σ' = z_up σ 21 48 0)) := by
  refine z_ofM (by decide) (z_cr (z_ci (z_ci z_c0))) (Nat.le_of_ble_eq_true rfl) ?_
  intro p e s m args below meth c X
  refine z_aload_n X dX9_ofMessage_0 rfl ?_
  refine z_aload_n X dX9_ofMessage_1 rfl ?_
  refine z_iload_n X dX9_ofMessage_2 rfl ?_
  refine z_runV X kX9_257 (tX9_isMessage _ hS hnm (by omega)) (zso_21 hS) rfl rfl (Nat.le_of_ble_eq_true rfl) ⟨by decide, by decide⟩ ⟨by decide, by decide⟩ dX9_ofMessage_3 ?_
  rintro _ g1 s1 ⟨rfl, h8, h9⟩
  replace h8 := h8.symm
  subst h8
  replace h9 := h9.symm
  subst h9
  obtain ⟨b6, hb6⟩ : ∃ q : Bool, q = zin xq nm := ⟨_, rfl⟩
  rw [← hb6]
  cases b6
  · skip
    skip
    refine z_runV X kX9_150 (tX9_asks false hS) (zso_21 hS) rfl rfl (Nat.le_of_ble_eq_true rfl) ⟨by decide, by decide⟩ ⟨by decide, by decide⟩ dX9_ofMessage_6 ?_
    rintro _ g1 s1 ⟨rfl, h8, h9⟩
    replace h8 := h8.symm
    subst h8
    replace h9 := h9.symm
    subst h9
    refine z_if_ne (tgt := 14) X dX9_ofMessage_9 (by decide) (fun c_9 => ?_) (fun c_9 => ?_)
    · exact absurd rfl c_9
    · skip
      refine z_iconst (v := 0) X (by decide) dX9_ofMessage_12 ?_
      refine z_iret X (by decide) (by decide) rfl dX9_ofMessage_13 ?_
      exact ⟨rfl, _, rfl, zMP_1 (j := 0) (by unfold zx_of; rw [if_pos (by rw [← hb6]; decide)]) rfl⟩
  · skip
    skip
    refine z_runV X kX9_150 (tX9_asks true hS) (zso_21 hS) rfl rfl (Nat.le_of_ble_eq_true rfl) ⟨by decide, by decide⟩ ⟨by decide, by decide⟩ dX9_ofMessage_6 ?_
    rintro _ g1 s1 ⟨rfl, h8, h9⟩
    replace h8 := h8.symm
    subst h8
    replace h9 := h9.symm
    subst h9
    refine z_if_ne (tgt := 14) X dX9_ofMessage_9 (by decide) (fun c_9 => ?_) (fun c_9 => ?_)
    · skip
      obtain ⟨m9, hm9, rfl⟩ := zin_t hb6.symm (by omega)
      obtain ⟨τ, hτ⟩ : ∃ q, q = z_up σ 21 48 0 := ⟨_, rfl⟩
      rw [show z_up σ 21 48 (if true = true then 0 else 1) = τ from hτ.symm]
      have eτ : ∀ i, i ≠ 21 → τ i = σ i := fun i h => by rw [hτ, z_up_ne h]
      have eτ1 : ∀ k, k ≠ 48 → τ 21 k = σ 21 k := fun k h => by rw [hτ, z_up_app, if_pos rfl, if_neg h]
      refine z_iload_n X dX9_ofMessage_14 rfl ?_
      rcases zsw 6 yq with ⟨j15, hj15, e15⟩ | hj15
      · have hq15 : j15 = 0 ∨ j15 = 1 ∨ j15 = 2 ∨ j15 = 3 ∨ j15 = 4 ∨ j15 = 5 := by omega
        rcases hq15 with rfl | rfl | rfl | rfl | rfl | rfl
        · skip
          subst e15
          refine z_tabIn X (off := 37) (tgt := 52) dX9_ofMessage_15 (by decide) (by decide) (by decide) (by decide) ?_
          refine z_aload_n X dX9_ofMessage_52 rfl ?_
          refine z_getr2 X fX9_77 (zso_21 hS) (zsr_21_31 hS) rfl dX9_ofMessage_53 ?_
          refine z_iload_n X dX9_ofMessage_56 rfl ?_
          refine z_ialdN X (zsa_44 hS) (by omega) (by omega) dX9_ofMessage_57 ?_
          refine z_iret X (by decide) (by decide) rfl dX9_ofMessage_58 ?_
          exact ⟨rfl, _, rfl, Or.inr ⟨by unfold zx_of; rw [if_neg (fun q => q hb6.symm), if_neg (by decide)], m9, 0, hm9, rfl, by decide, rfl, by first | (rw [eτ 44 (by decide)]; rfl) | exact zmc_e (eτ 44 (by decide)) (eτ 52 (by decide)) (eτ 54 (by decide)), hτ⟩⟩
        · skip
          subst e15
          refine z_tabIn X (off := 44) (tgt := 59) dX9_ofMessage_15 (by decide) (by decide) (by decide) (by decide) ?_
          refine z_aload_n X dX9_ofMessage_59 rfl ?_
          refine z_getr2 X fX9_80 (zso_21 hS) (zsr_21_32 hS) rfl dX9_ofMessage_60 ?_
          refine z_iload_n X dX9_ofMessage_63 rfl ?_
          refine z_ialdN X (zsa_45 hS) (by omega) (by omega) dX9_ofMessage_64 ?_
          refine z_iret X (by decide) (by decide) rfl dX9_ofMessage_65 ?_
          exact ⟨rfl, _, rfl, Or.inr ⟨by unfold zx_of; rw [if_neg (fun q => q hb6.symm), if_neg (by decide)], m9, 1, hm9, rfl, by decide, rfl, by first | (rw [eτ 45 (by decide)]; rfl) | exact zmc_e (eτ 44 (by decide)) (eτ 52 (by decide)) (eτ 54 (by decide)), hτ⟩⟩
        · skip
          subst e15
          refine z_tabIn X (off := 51) (tgt := 66) dX9_ofMessage_15 (by decide) (by decide) (by decide) (by decide) ?_
          refine z_aload_n X dX9_ofMessage_66 rfl ?_
          refine z_getr2 X fX9_83 (zso_21 hS) (zsr_21_33 hS) rfl dX9_ofMessage_67 ?_
          refine z_iload_n X dX9_ofMessage_70 rfl ?_
          refine z_ialdN X (zsa_46 hS) (by omega) (by omega) dX9_ofMessage_71 ?_
          refine z_iret X (by decide) (by decide) rfl dX9_ofMessage_72 ?_
          exact ⟨rfl, _, rfl, Or.inr ⟨by unfold zx_of; rw [if_neg (fun q => q hb6.symm), if_neg (by decide)], m9, 2, hm9, rfl, by decide, rfl, by first | (rw [eτ 46 (by decide)]; rfl) | exact zmc_e (eτ 44 (by decide)) (eτ 52 (by decide)) (eτ 54 (by decide)), hτ⟩⟩
        · skip
          subst e15
          refine z_tabIn X (off := 58) (tgt := 73) dX9_ofMessage_15 (by decide) (by decide) (by decide) (by decide) ?_
          refine z_aload_n X dX9_ofMessage_73 rfl ?_
          refine z_getr2 X fX9_86 (zso_21 hS) (zsr_21_34 hS) rfl dX9_ofMessage_74 ?_
          refine z_iload_n X dX9_ofMessage_77 rfl ?_
          refine z_ialdN X (zsa_47 hS) (by omega) (by omega) dX9_ofMessage_78 ?_
          refine z_iret X (by decide) (by decide) rfl dX9_ofMessage_79 ?_
          exact ⟨rfl, _, rfl, Or.inr ⟨by unfold zx_of; rw [if_neg (fun q => q hb6.symm), if_neg (by decide)], m9, 3, hm9, rfl, by decide, rfl, by first | (rw [eτ 47 (by decide)]; rfl) | exact zmc_e (eτ 44 (by decide)) (eτ 52 (by decide)) (eτ 54 (by decide)), hτ⟩⟩
        · skip
          subst e15
          refine z_tabIn X (off := 65) (tgt := 80) dX9_ofMessage_15 (by decide) (by decide) (by decide) (by decide) ?_
          refine z_aload_n X dX9_ofMessage_80 rfl ?_
          refine z_iload_n X dX9_ofMessage_81 rfl ?_
          refine z_runV X kX9_190 (tX9_cableOf m9 hS (by omega) (by rw [eτ 44 (by decide), eτ 54 (by decide)]; exact hst m9 hm9)) (zso_21 hS) rfl rfl (Nat.le_of_ble_eq_true rfl) ⟨by decide, by decide⟩ ⟨by decide, by decide⟩ dX9_ofMessage_82 ?_
          rintro _ g1 s1 ⟨rfl, h8, h9⟩
          replace h8 := h8.symm
          subst h8
          replace h9 := h9.symm
          subst h9
          refine z_iret X (by decide) (by decide) rfl dX9_ofMessage_85 ?_
          exact ⟨rfl, _, rfl, Or.inr ⟨by unfold zx_of; rw [if_neg (fun q => q hb6.symm), if_neg (by decide)], m9, 4, hm9, rfl, by decide, rfl, by first | (rw [eτ 99 (by decide)]; rfl) | exact zmc_e (eτ 44 (by decide)) (eτ 52 (by decide)) (eτ 54 (by decide)), hτ⟩⟩
        · skip
          subst e15
          refine z_tabIn X (off := 71) (tgt := 86) dX9_ofMessage_15 (by decide) (by decide) (by decide) (by decide) ?_
          refine z_aload_n X dX9_ofMessage_86 rfl ?_
          refine z_getr2 X fX9_89 (zso_21 hS) (zsr_21_35 hS) rfl dX9_ofMessage_87 ?_
          refine z_iload_n X dX9_ofMessage_90 rfl ?_
          refine z_ialdN X (zsa_48 hS) (by omega) (by omega) dX9_ofMessage_91 ?_
          refine z_iret X (by decide) (by decide) rfl dX9_ofMessage_92 ?_
          exact ⟨rfl, _, rfl, Or.inr ⟨by unfold zx_of; rw [if_neg (fun q => q hb6.symm), if_neg (by decide)], m9, 5, hm9, rfl, by decide, rfl, by first | (rw [eτ 48 (by decide)]; rfl) | exact zmc_e (eτ 44 (by decide)) (eτ 52 (by decide)) (eτ 54 (by decide)), hτ⟩⟩
      · skip
        refine z_tabOut X (tgt := 93) dX9_ofMessage_15 hj15 (by decide) ?_
        refine z_aload_n X dX9_ofMessage_93 rfl ?_
        refine z_iconst (v := 2) X (by decide) dX9_ofMessage_94 ?_
        refine z_runV X kX9_154 (tX9_fails _ hS) (zso_21 hS) rfl rfl (Nat.le_of_ble_eq_true rfl) ⟨by decide, by decide⟩ ⟨by decide, by decide⟩ dX9_ofMessage_95 ?_
        rintro _ g1 s1 ⟨rfl, h8, h9⟩
        replace h8 := h8.symm
        subst h8
        replace h9 := h9.symm
        subst h9
        refine z_iret X (by decide) (by decide) rfl dX9_ofMessage_98 ?_
        exact ⟨rfl, _, rfl, by rw [hτ]; exact zMP_2 (j := 1) (by unfold zx_of; rw [if_neg (fun q => q hb6.symm), if_pos (show yq.toInt < 0 ∨ 5 < yq.toInt from hj15)]) rfl⟩
    · exact absurd c_9 (by decide)

set_option maxHeartbeats 4000000 in
set_option maxRecDepth 100000 in
theorem tX9_word {l : Launch} {D : va_G} {cy : Nat → ClassId} {z0 : Nat} {g : zSh} {σ : zIn} {nm : Nat} {W : Nat → Nat} (b : Bool) (xq yq : Int32) (hS : zS g) (hnm : σ 21 27 = nI nm) (hn60 : nm ≤ 60) (hW : ∀ m, m < nm → σ 45 m = nI (W m) ∧ W m ≤ 24) : z_Ct l D cy z0 MX9_word [.ref (g.2.1 21), .int xq, .int yq, .int (zb b)] g σ (fun v g' σ' => g' = g ∧ ∃ r, v = some (.int r) ∧ zMP (zyd nm W xq yq) σ σ' (∃ m k, m < nm ∧ xq = nI m ∧ k < W m ∧ yq = nI k ∧ r = (if b then σ 50 (24 * m + k) else σ 51 (24 * m + k)) ∧ σ' = z_up σ 21 48 0)) := by
  refine z_ofM (by decide) (z_cr (z_ci (z_ci (z_ci z_c0)))) (Nat.le_of_ble_eq_true rfl) ?_
  intro p e s m args below meth c X
  refine z_aload_n X dX9_word_0 rfl ?_
  refine z_aload_n X dX9_word_1 rfl ?_
  refine z_iload_n X dX9_word_2 rfl ?_
  refine z_runV X kX9_257 (tX9_isMessage _ hS hnm (by omega)) (zso_21 hS) rfl rfl (Nat.le_of_ble_eq_true rfl) ⟨by decide, by decide⟩ ⟨by decide, by decide⟩ dX9_word_3 ?_
  rintro _ g1 s1 ⟨rfl, h8, h9⟩
  replace h8 := h8.symm
  subst h8
  replace h9 := h9.symm
  subst h9
  refine z_if_eq (tgt := 29) X dX9_word_6 (by decide) (fun c_6 => ?_) (fun c_6 => ?_)
  · skip
    try simp (disch := omega) only [zb_notn, zb_not, zb_n0, zb_0, Bool.not_eq_false, Bool.not_eq_true, Bool.not_eq_true', Bool.not_eq_false', decide_eq_true_eq, decide_eq_false_iff_not, Classical.not_not] at c_6
    refine z_iconst (v := nI 0) X (by decide) dX9_word_29 ?_
    refine z_runV X kX9_150 (tX9_asks false hS) (zso_21 hS) rfl rfl (Nat.le_of_ble_eq_true rfl) ⟨by decide, by decide⟩ ⟨by decide, by decide⟩ dX9_word_30 ?_
    rintro _ g1 s1 ⟨rfl, h8, h9⟩
    replace h8 := h8.symm
    subst h8
    replace h9 := h9.symm
    subst h9
    refine z_if_ne (tgt := 38) X dX9_word_33 (by decide) (fun c_33 => ?_) (fun c_33 => ?_)
    · first | exact absurd c_33 (by decide) | exact absurd (by decide) c_33
    · skip
      refine z_iconst (v := 0) X (by decide) dX9_word_36 ?_
      refine z_iret X (by decide) (by decide) rfl dX9_word_37 ?_
      exact ⟨rfl, _, rfl, zMP_1 (j := 0) (by unfold zyd; first | (rw [if_neg (fun q => by rw [c_6] at q; exact absurd q.1 (by decide))]) | (rw [if_neg (fun q => by rw [zn_nI (by omega)] at q; rw [(zin_r (by have := (hW m9 hm9).2; omega)).mp c_22] at q; exact absurd q.2 (by decide))])) rfl⟩
  · skip
    try simp (disch := omega) only [zb_notn, zb_not, zb_n0, zb_0, Bool.not_eq_false, Bool.not_eq_true, Bool.not_eq_true', Bool.not_eq_false', decide_eq_true_eq, decide_eq_false_iff_not, Classical.not_not] at c_6
    obtain ⟨m9, hm9, rfl⟩ := zin_t c_6 (by omega)
    refine z_iload_n X dX9_word_9 rfl ?_
    refine z_iconst (v := 0) X (by decide) dX9_word_10 ?_
    refine z_aload_n X dX9_word_11 rfl ?_
    refine z_getr2 X fX9_80 (zso_21 hS) (zsr_21_32 hS) rfl dX9_word_12 ?_
    refine z_iload_n X dX9_word_15 rfl ?_
    refine z_ialdN X (zsa_45 hS) (by omega) (by omega) dX9_word_16 ?_
    rw [(hW m9 hm9).1]
    refine z_iconst (v := 1) X (by decide) dX9_word_17 ?_
    refine z_isub X dX9_word_18 ?_
    refine z_runS X kX9_129 (tX9_inN _ _ _) rfl rfl (Nat.le_of_ble_eq_true rfl) ⟨by decide, by decide⟩ ⟨by decide, by decide⟩ dX9_word_19 ?_
    rintro _ g1 s1 ⟨rfl, h8, h9⟩
    replace h8 := h8.symm
    subst h8
    replace h9 := h9.symm
    subst h9
    refine z_if_eq (tgt := 29) X dX9_word_22 (by decide) (fun c_22 => ?_) (fun c_22 => ?_)
    · skip
      try simp (disch := omega) only [zb_notn, zb_not, zb_n0, zb_0, Bool.not_eq_false, Bool.not_eq_true, Bool.not_eq_true', Bool.not_eq_false', decide_eq_true_eq, decide_eq_false_iff_not, Classical.not_not] at c_22
      refine z_iconst (v := nI 0) X (by decide) dX9_word_29 ?_
      refine z_runV X kX9_150 (tX9_asks false hS) (zso_21 hS) rfl rfl (Nat.le_of_ble_eq_true rfl) ⟨by decide, by decide⟩ ⟨by decide, by decide⟩ dX9_word_30 ?_
      rintro _ g1 s1 ⟨rfl, h8, h9⟩
      replace h8 := h8.symm
      subst h8
      replace h9 := h9.symm
      subst h9
      refine z_if_ne (tgt := 38) X dX9_word_33 (by decide) (fun c_33 => ?_) (fun c_33 => ?_)
      · first | exact absurd c_33 (by decide) | exact absurd (by decide) c_33
      · skip
        refine z_iconst (v := 0) X (by decide) dX9_word_36 ?_
        refine z_iret X (by decide) (by decide) rfl dX9_word_37 ?_
        exact ⟨rfl, _, rfl, zMP_1 (j := 0) (by unfold zyd; first | (rw [if_neg (fun q => by rw [c_6] at q; exact absurd q.1 (by decide))]) | (rw [if_neg (fun q => by rw [zn_nI (by omega)] at q; rw [(zin_r (by have := (hW m9 hm9).2; omega)).mp c_22] at q; exact absurd q.2 (by decide))])) rfl⟩
    · skip
      try simp (disch := omega) only [zb_notn, zb_not, zb_n0, zb_0, Bool.not_eq_false, Bool.not_eq_true, Bool.not_eq_true', Bool.not_eq_false', decide_eq_true_eq, decide_eq_false_iff_not, Classical.not_not] at c_22
      refine z_iconst (v := nI 1) X (by decide) dX9_word_25 ?_
      refine z_goto (tgt := 30) X dX9_word_26 (by decide) ?_
      refine z_runV X kX9_150 (tX9_asks true hS) (zso_21 hS) rfl rfl (Nat.le_of_ble_eq_true rfl) ⟨by decide, by decide⟩ ⟨by decide, by decide⟩ dX9_word_30 ?_
      rintro _ g1 s1 ⟨rfl, h8, h9⟩
      replace h8 := h8.symm
      subst h8
      replace h9 := h9.symm
      subst h9
      refine z_if_ne (tgt := 38) X dX9_word_33 (by decide) (fun c_33 => ?_) (fun c_33 => ?_)
      · skip
        have hL24 := (hW m9 hm9).2
        have hzy : zin yq (W m9) = true := zin_rt (by omega) c_22
        obtain ⟨k9, hk9, rfl⟩ := zin_t hzy (by omega)
        obtain ⟨τ, hτ⟩ : ∃ q, q = z_up σ 21 48 0 := ⟨_, rfl⟩
        rw [show z_up σ 21 48 (if true = true then 0 else 1) = τ from hτ.symm]
        have eτ : ∀ i, i ≠ 21 → τ i = σ i := fun i h => by rw [hτ, z_up_ne h]
        have eτ1 : ∀ k, k ≠ 48 → τ 21 k = σ 21 k := fun k h => by rw [hτ, z_up_app, if_pos rfl, if_neg h]
        refine z_iload_n X dX9_word_38 rfl ?_
        refine z_if_eq (tgt := 56) X dX9_word_39 (by decide) (fun c_39 => ?_) (fun c_39 => ?_)
        · skip
          try simp (disch := omega) only [zb_notn, zb_not, zb_n0, zb_0, Bool.not_eq_false, Bool.not_eq_true, Bool.not_eq_true', Bool.not_eq_false', decide_eq_true_eq, decide_eq_false_iff_not, Classical.not_not] at c_39
          refine z_aload_n X dX9_word_56 rfl ?_
          refine z_getr2 X fX9_98 (zso_21 hS) (zsr_21_38 hS) rfl dX9_word_57 ?_
          refine z_bipush (v := nI 24) X (by decide) dX9_word_60 ?_
          refine z_iload_n X dX9_word_62 rfl ?_
          refine z_imulN X dX9_word_63 ?_
          refine z_iload_n X dX9_word_64 rfl ?_
          refine z_iaddN X dX9_word_65 ?_
          refine z_ialdN X (zsa_51 hS) (by omega) (by omega) dX9_word_66 ?_
          refine z_iret X (by decide) (by decide) rfl dX9_word_67 ?_
          exact ⟨rfl, _, rfl, Or.inr ⟨by unfold zyd; rw [if_pos ⟨c_6, by rw [zn_nI (by omega)]; exact hzy⟩], m9, k9, hm9, rfl, hk9, rfl, by first | (rw [c_39, if_pos rfl, eτ 50 (by decide)]) | (rw [c_39, if_neg (by decide), eτ 51 (by decide)]), hτ⟩⟩
        · skip
          try simp (disch := omega) only [zb_notn, zb_not, zb_n0, zb_0, Bool.not_eq_false, Bool.not_eq_true, Bool.not_eq_true', Bool.not_eq_false', decide_eq_true_eq, decide_eq_false_iff_not, Classical.not_not] at c_39
          refine z_aload_n X dX9_word_42 rfl ?_
          refine z_getr2 X fX9_95 (zso_21 hS) (zsr_21_37 hS) rfl dX9_word_43 ?_
          refine z_bipush (v := nI 24) X (by decide) dX9_word_46 ?_
          refine z_iload_n X dX9_word_48 rfl ?_
          refine z_imulN X dX9_word_49 ?_
          refine z_iload_n X dX9_word_50 rfl ?_
          refine z_iaddN X dX9_word_51 ?_
          refine z_ialdN X (zsa_50 hS) (by omega) (by omega) dX9_word_52 ?_
          refine z_goto (tgt := 67) X dX9_word_53 (by decide) ?_
          refine z_iret X (by decide) (by decide) rfl dX9_word_67 ?_
          exact ⟨rfl, _, rfl, Or.inr ⟨by unfold zyd; rw [if_pos ⟨c_6, by rw [zn_nI (by omega)]; exact hzy⟩], m9, k9, hm9, rfl, hk9, rfl, by first | (rw [c_39, if_pos rfl, eτ 50 (by decide)]) | (rw [c_39, if_neg (by decide), eτ 51 (by decide)]), hτ⟩⟩
      · first | exact absurd c_33 (by decide) | exact absurd (by decide) c_33

set_option maxHeartbeats 4000000 in
set_option maxRecDepth 100000 in
theorem tX9_wrong {l : Launch} {D : va_G} {cy : Nat → ClassId} {z0 : Nat} {g : zSh} {σ : zIn} {nm : Nat} {W : Nat → Nat} (xq yq a b : Int32) (hS : zS g) (hnm : σ 21 27 = nI nm) (hn60 : nm ≤ 60) (hW : ∀ m, m < nm → σ 45 m = nI (W m) ∧ W m ≤ 24) (hnw : ∀ m, m < nm → ∀ k, k < W m → 0 ≤ σ 50 (24 * m + k) → zwd (σ 51 (24 * m + k))) : z_Ct l D cy z0 MX9_wrong [.ref (g.2.1 21), .int xq, .int yq, .int a, .int b] g σ (fun v g' σ' => g' = g ∧ ∃ r, v = some (.int r) ∧ zMP (zyw nm W (fun m k => σ 44 m = 0 ∧ 0 ≤ σ 50 (24 * m + k)) xq yq a b) σ σ' (∃ m k q t V, m < nm ∧ xq = nI m ∧ k < W m ∧ yq = nI k ∧ q < 5 ∧ a = nI q ∧ t < 26 ∧ b = nI t ∧ V < 2 ^ 31 ∧ σ 51 (24 * m + k) = nI V ∧ r = nI V + (nI t - nI (zl (nI V) q)) * nI (26 ^ (4 - q)) ∧ σ' = z_up (z_up σ 21 48 0) 51 (24 * m + k) r)) := by
  refine z_ofM (by decide) (z_cr (z_ci (z_ci (z_ci (z_ci z_c0))))) (Nat.le_of_ble_eq_true rfl) ?_
  intro p e s m args below meth c X
  refine z_aload_n X dX9_wrong_0 rfl ?_
  refine z_aload_n X dX9_wrong_1 rfl ?_
  refine z_iload_n X dX9_wrong_2 rfl ?_
  refine z_runV X kX9_257 (tX9_isMessage _ hS hnm (by omega)) (zso_21 hS) rfl rfl (Nat.le_of_ble_eq_true rfl) ⟨by decide, by decide⟩ ⟨by decide, by decide⟩ dX9_wrong_3 ?_
  rintro _ g1 s1 ⟨rfl, h8, h9⟩
  replace h8 := h8.symm
  subst h8
  replace h9 := h9.symm
  subst h9
  refine z_if_eq (tgt := 29) X dX9_wrong_6 (by decide) (fun c_6 => ?_) (fun c_6 => ?_)
  · skip
    try simp (disch := omega) only [zb_notn, zb_not, zb_n0, zb_0, Bool.not_eq_false, Bool.not_eq_true, Bool.not_eq_true', Bool.not_eq_false', decide_eq_true_eq, decide_eq_false_iff_not, Classical.not_not] at c_6
    refine z_iconst (v := nI 0) X (by decide) dX9_wrong_29 ?_
    refine z_runV X kX9_150 (tX9_asks false hS) (zso_21 hS) rfl rfl (Nat.le_of_ble_eq_true rfl) ⟨by decide, by decide⟩ ⟨by decide, by decide⟩ dX9_wrong_30 ?_
    rintro _ g1 s1 ⟨rfl, h8, h9⟩
    replace h8 := h8.symm
    subst h8
    replace h9 := h9.symm
    subst h9
    refine z_if_ne (tgt := 38) X dX9_wrong_33 (by decide) (fun c_33 => ?_) (fun c_33 => ?_)
    · first | exact absurd c_33 (by decide) | exact absurd (by decide) c_33
    · skip
      refine z_iconst (v := 0) X (by decide) dX9_wrong_36 ?_
      refine z_iret X (by decide) (by decide) rfl dX9_wrong_37 ?_
      exact ⟨rfl, _, rfl, zMP_1 (j := 0) (by unfold zyw; first | (rw [if_pos (fun q => by rw [c_6] at q; exact absurd q.1 (by decide))]) | (rw [if_pos (fun q => by rw [zn_nI (by omega)] at q; rw [(zin_r (by have := (hW m9 hm9).2; omega)).mp c_22] at q; exact absurd q.2 (by decide))])) rfl⟩
  · skip
    try simp (disch := omega) only [zb_notn, zb_not, zb_n0, zb_0, Bool.not_eq_false, Bool.not_eq_true, Bool.not_eq_true', Bool.not_eq_false', decide_eq_true_eq, decide_eq_false_iff_not, Classical.not_not] at c_6
    obtain ⟨m9, hm9, rfl⟩ := zin_t c_6 (by omega)
    refine z_iload_n X dX9_wrong_9 rfl ?_
    refine z_iconst (v := 0) X (by decide) dX9_wrong_10 ?_
    refine z_aload_n X dX9_wrong_11 rfl ?_
    refine z_getr2 X fX9_80 (zso_21 hS) (zsr_21_32 hS) rfl dX9_wrong_12 ?_
    refine z_iload_n X dX9_wrong_15 rfl ?_
    refine z_ialdN X (zsa_45 hS) (by omega) (by omega) dX9_wrong_16 ?_
    rw [(hW m9 hm9).1]
    refine z_iconst (v := 1) X (by decide) dX9_wrong_17 ?_
    refine z_isub X dX9_wrong_18 ?_
    refine z_runS X kX9_129 (tX9_inN _ _ _) rfl rfl (Nat.le_of_ble_eq_true rfl) ⟨by decide, by decide⟩ ⟨by decide, by decide⟩ dX9_wrong_19 ?_
    rintro _ g1 s1 ⟨rfl, h8, h9⟩
    replace h8 := h8.symm
    subst h8
    replace h9 := h9.symm
    subst h9
    refine z_if_eq (tgt := 29) X dX9_wrong_22 (by decide) (fun c_22 => ?_) (fun c_22 => ?_)
    · skip
      try simp (disch := omega) only [zb_notn, zb_not, zb_n0, zb_0, Bool.not_eq_false, Bool.not_eq_true, Bool.not_eq_true', Bool.not_eq_false', decide_eq_true_eq, decide_eq_false_iff_not, Classical.not_not] at c_22
      refine z_iconst (v := nI 0) X (by decide) dX9_wrong_29 ?_
      refine z_runV X kX9_150 (tX9_asks false hS) (zso_21 hS) rfl rfl (Nat.le_of_ble_eq_true rfl) ⟨by decide, by decide⟩ ⟨by decide, by decide⟩ dX9_wrong_30 ?_
      rintro _ g1 s1 ⟨rfl, h8, h9⟩
      replace h8 := h8.symm
      subst h8
      replace h9 := h9.symm
      subst h9
      refine z_if_ne (tgt := 38) X dX9_wrong_33 (by decide) (fun c_33 => ?_) (fun c_33 => ?_)
      · first | exact absurd c_33 (by decide) | exact absurd (by decide) c_33
      · skip
        refine z_iconst (v := 0) X (by decide) dX9_wrong_36 ?_
        refine z_iret X (by decide) (by decide) rfl dX9_wrong_37 ?_
        exact ⟨rfl, _, rfl, zMP_1 (j := 0) (by unfold zyw; first | (rw [if_pos (fun q => by rw [c_6] at q; exact absurd q.1 (by decide))]) | (rw [if_pos (fun q => by rw [zn_nI (by omega)] at q; rw [(zin_r (by have := (hW m9 hm9).2; omega)).mp c_22] at q; exact absurd q.2 (by decide))])) rfl⟩
    · skip
      try simp (disch := omega) only [zb_notn, zb_not, zb_n0, zb_0, Bool.not_eq_false, Bool.not_eq_true, Bool.not_eq_true', Bool.not_eq_false', decide_eq_true_eq, decide_eq_false_iff_not, Classical.not_not] at c_22
      refine z_iconst (v := nI 1) X (by decide) dX9_wrong_25 ?_
      refine z_goto (tgt := 30) X dX9_wrong_26 (by decide) ?_
      refine z_runV X kX9_150 (tX9_asks true hS) (zso_21 hS) rfl rfl (Nat.le_of_ble_eq_true rfl) ⟨by decide, by decide⟩ ⟨by decide, by decide⟩ dX9_wrong_30 ?_
      rintro _ g1 s1 ⟨rfl, h8, h9⟩
      replace h8 := h8.symm
      subst h8
      replace h9 := h9.symm
      subst h9
      refine z_if_ne (tgt := 38) X dX9_wrong_33 (by decide) (fun c_33 => ?_) (fun c_33 => ?_)
      · skip
        have hL24 := (hW m9 hm9).2
        have hzy : zin yq (W m9) = true := zin_rt (by omega) c_22
        obtain ⟨k9, hk9, rfl⟩ := zin_t hzy (by omega)
        have ex : zn (nI m9) = m9 := zn_nI (by omega)
        have ey : zn (nI k9) = k9 := zn_nI (by omega)
        obtain ⟨τ, hτ⟩ : ∃ q, q = z_up σ 21 48 0 := ⟨_, rfl⟩
        rw [show z_up σ 21 48 (if true = true then 0 else 1) = τ from hτ.symm]
        have eτ : ∀ i, i ≠ 21 → τ i = σ i := fun i h => by rw [hτ, z_up_ne h]
        have eτ1 : ∀ k, k ≠ 48 → τ 21 k = σ 21 k := fun k h => by rw [hτ, z_up_app, if_pos rfl, if_neg h]
        refine z_iload_n X dX9_wrong_38 rfl ?_
        refine z_iconst (v := 0) X (by decide) dX9_wrong_39 ?_
        refine z_iconst (v := 4) X (by decide) dX9_wrong_40 ?_
        refine z_runS X kX9_129 (tX9_inN _ _ _) rfl rfl (Nat.le_of_ble_eq_true rfl) ⟨by decide, by decide⟩ ⟨by decide, by decide⟩ dX9_wrong_41 ?_
        rintro _ g1 s1 ⟨rfl, h8, h9⟩
        replace h8 := h8.symm
        subst h8
        replace h9 := h9.symm
        subst h9
        refine z_if_eq (tgt := 58) X dX9_wrong_44 (by decide) (fun c_44 => ?_) (fun c_44 => ?_)
        · skip
          try simp (disch := omega) only [zb_notn, zb_not, zb_n0, zb_0, Bool.not_eq_false, Bool.not_eq_true, Bool.not_eq_true', Bool.not_eq_false', decide_eq_true_eq, decide_eq_false_iff_not, Classical.not_not] at c_44
          refine z_aload_n X dX9_wrong_58 rfl ?_
          refine z_iconst (v := 2) X (by decide) dX9_wrong_59 ?_
          refine z_runV X kX9_154 (tX9_fails _ hS) (zso_21 hS) rfl rfl (Nat.le_of_ble_eq_true rfl) ⟨by decide, by decide⟩ ⟨by decide, by decide⟩ dX9_wrong_60 ?_
          rintro _ g1 s1 ⟨rfl, h8, h9⟩
          replace h8 := h8.symm
          subst h8
          replace h9 := h9.symm
          subst h9
          refine z_iret X (by decide) (by decide) rfl dX9_wrong_63 ?_
          exact ⟨rfl, _, rfl, by rw [hτ]; exact zMP_2 (j := 1) (by unfold zyw; rw [if_neg (fun q => q ⟨c_6, by rw [zn_nI (by omega)]; exact hzy⟩), if_pos (by first | exact Or.inl c_44 | exact Or.inr c_55)]) rfl⟩
        · skip
          try simp (disch := omega) only [zb_notn, zb_not, zb_n0, zb_0, Bool.not_eq_false, Bool.not_eq_true, Bool.not_eq_true', Bool.not_eq_false', decide_eq_true_eq, decide_eq_false_iff_not, Classical.not_not] at c_44
          refine z_iload X dX9_wrong_47 rfl ?_
          refine z_iconst (v := 0) X (by decide) dX9_wrong_49 ?_
          refine z_bipush (v := 25) X (by decide) dX9_wrong_50 ?_
          refine z_runS X kX9_129 (tX9_inN _ _ _) rfl rfl (Nat.le_of_ble_eq_true rfl) ⟨by decide, by decide⟩ ⟨by decide, by decide⟩ dX9_wrong_52 ?_
          rintro _ g1 s1 ⟨rfl, h8, h9⟩
          replace h8 := h8.symm
          subst h8
          replace h9 := h9.symm
          subst h9
          refine z_if_ne (tgt := 64) X dX9_wrong_55 (by decide) (fun c_55 => ?_) (fun c_55 => ?_)
          · skip
            try simp (disch := omega) only [zb_notn, zb_not, zb_n0, zb_0, Bool.not_eq_false, Bool.not_eq_true, Bool.not_eq_true', Bool.not_eq_false', decide_eq_true_eq, decide_eq_false_iff_not, Classical.not_not] at c_55
            refine z_aload_n X dX9_wrong_64 rfl ?_
            refine z_getr2 X fX9_77 (zso_21 hS) (zsr_21_31 hS) rfl dX9_wrong_65 ?_
            refine z_iload_n X dX9_wrong_68 rfl ?_
            refine z_ialdN X (zsa_44 hS) (by omega) (by omega) dX9_wrong_69 ?_
            rw [eτ 44 (by decide)]
            refine z_if_ne (tgt := 82) X dX9_wrong_70 (by decide) (fun c_70 => ?_) (fun c_70 => ?_)
            · skip
              refine z_aload_n X dX9_wrong_82 rfl ?_
              refine z_iconst (v := 3) X (by decide) dX9_wrong_83 ?_
              refine z_runV X kX9_154 (tX9_fails _ hS) (zso_21 hS) rfl rfl (Nat.le_of_ble_eq_true rfl) ⟨by decide, by decide⟩ ⟨by decide, by decide⟩ dX9_wrong_84 ?_
              rintro _ g1 s1 ⟨rfl, h8, h9⟩
              replace h8 := h8.symm
              subst h8
              replace h9 := h9.symm
              subst h9
              refine z_iret X (by decide) (by decide) rfl dX9_wrong_87 ?_
              exact ⟨rfl, _, rfl, by rw [hτ]; exact zMP_2 (j := 2) (by unfold zyw; rw [if_neg (fun q => q ⟨c_6, by rw [zn_nI (by omega)]; exact hzy⟩), if_neg (fun q => q.elim c_44 c_55), zif_t (fun q => by rw [ex, ey] at q; first | exact c_70 q.1 | (rw [eτ 50 (by decide)] at c_79; exact c_79 q.2))]) rfl⟩
            · skip
              refine z_aload_n X dX9_wrong_73 rfl ?_
              refine z_iload_n X dX9_wrong_74 rfl ?_
              refine z_iload_n X dX9_wrong_75 rfl ?_
              refine z_runV X kX9_260 (tX9_isCodeAt m9 k9 hS (by omega) (by omega)) (zso_21 hS) rfl rfl (Nat.le_of_ble_eq_true rfl) ⟨by decide, by decide⟩ ⟨by decide, by decide⟩ dX9_wrong_76 ?_
              rintro _ g1 s1 ⟨rfl, h8, h9⟩
              replace h8 := h8.symm
              subst h8
              replace h9 := h9.symm
              subst h9
              refine z_if_ne (tgt := 88) X dX9_wrong_79 (by decide) (fun c_79 => ?_) (fun c_79 => ?_)
              · skip
                try simp (disch := omega) only [zb_notn, zb_not, zb_n0, zb_0, Bool.not_eq_false, Bool.not_eq_true, Bool.not_eq_true', Bool.not_eq_false', decide_eq_true_eq, decide_eq_false_iff_not, Classical.not_not] at c_79
                rw [eτ 50 (by decide)] at c_79
                obtain ⟨q9, hq9, rfl⟩ := zrg_0 (n := 4) (by decide) c_44
                obtain ⟨t9, ht9, rfl⟩ := zrg_0 (n := 25) (by decide) c_55
                obtain ⟨V, hV, eV⟩ := hnw m9 hm9 k9 hk9 c_79
                have eV2 : τ 51 (24 * m9 + k9) = nI V := by rw [eτ 51 (by decide)]; exact eV
                refine z_bipush (v := nI 24) X (by decide) dX9_wrong_88 ?_
                refine z_iload_n X dX9_wrong_90 rfl ?_
                refine z_imulN X dX9_wrong_91 ?_
                refine z_iload_n X dX9_wrong_92 rfl ?_
                refine z_iaddN X dX9_wrong_93 ?_
                refine z_istore X dX9_wrong_94 (by decide) ?_
                refine z_iconst (v := nI 1) X (by decide) dX9_wrong_96 ?_
                refine z_istore X dX9_wrong_97 (by decide) ?_
                have loop_102 : ∀ (n : Nat) (d9 : Nat) (hd : q9 + d9 ≤ 4) (hn : 4 - d9 < n), z_V p l e (zRm MX9_wrong) s m args below meth c 8 D cy z0 0 0 (zQm MX9_wrong below D cy z0 (fun v g' σ' => g' = g ∧ ∃ r, v = some (.int r) ∧ zMP (zyw nm W (fun m k => σ 44 m = 0 ∧ 0 ≤ σ 50 (24 * m + k)) (nI m9) (nI k9) (nI q9) (nI t9)) σ σ' (∃ m k q t V, m < nm ∧ (nI m9) = nI m ∧ k < W m ∧ (nI k9) = nI k ∧ q < 5 ∧ (nI q9) = nI q ∧ t < 26 ∧ (nI t9) = nI t ∧ V < 2 ^ 31 ∧ σ 51 (24 * m + k) = nI V ∧ r = nI V + (nI t - nI (zl (nI V) q)) * nI (26 ^ (4 - q)) ∧ σ' = z_up (z_up σ 21 48 0) 51 (24 * m + k) r)) args s) 102 [some (.ref (g.2.1 21)), some (.int (nI m9)), some (.int (nI k9)), some (.int (nI q9)), some (.int (nI t9)), some (.int (nI (24 * m9 + k9))), some (.int (nI (26 ^ d9))), some (.int (nI (q9 + d9)))] [] g τ := by
                  intro n
                  induction n with
                  | zero => intro d9 hd hn; exact absurd hn (Nat.not_lt_zero _)
                  | succ n ih_102 =>
                    intro d9 hd hn
                    refine z_iload X dX9_wrong_102 rfl ?_
                    refine z_iconst (v := nI 4) X (by decide) dX9_wrong_104 ?_
                    refine z_icmp_ge (tgt := 121) X dX9_wrong_105 (by decide) (fun c_105 => ?_) (fun c_105 => ?_)
                    · skip
                      try simp (disch := omega) only [zk0, nI_leI, nI_ltI, nI_eq, zbk_notn, zbk_not, zbk_n0, zbk_0, zb_0, zb_n0, zb_not, zb_notn, Bool.not_eq_false, Bool.not_eq_true, Bool.not_eq_true', Bool.not_eq_false', decide_eq_true_eq, decide_eq_false_iff_not, Classical.not_not] at c_105
                      refine z_aload_n X dX9_wrong_121 rfl ?_
                      refine z_getr2 X fX9_98 (zso_21 hS) (zsr_21_38 hS) rfl dX9_wrong_122 ?_
                      refine z_iload X dX9_wrong_125 rfl ?_
                      refine z_dup2 X rfl rfl dX9_wrong_127 ?_
                      refine z_ialdN X (zsa_51 hS) (by omega) (by omega) dX9_wrong_128 ?_
                      rw [eV2]
                      refine z_iload X dX9_wrong_129 rfl ?_
                      refine z_aload_n X dX9_wrong_131 rfl ?_
                      refine z_getr2 X fX9_98 (zso_21 hS) (zsr_21_38 hS) rfl dX9_wrong_132 ?_
                      refine z_iload X dX9_wrong_135 rfl ?_
                      refine z_ialdN X (zsa_51 hS) (by omega) (by omega) dX9_wrong_137 ?_
                      rw [eV2]
                      refine z_iload_n X dX9_wrong_138 rfl ?_
                      refine z_runS X kX9_143 (tX9_letter V q9 (by omega) (by omega)) rfl rfl (Nat.le_of_ble_eq_true rfl) ⟨by decide, by decide⟩ ⟨by decide, by decide⟩ dX9_wrong_139 ?_
                      rintro _ g1 s1 ⟨rfl, h8, h9⟩
                      replace h8 := h8.symm
                      subst h8
                      replace h9 := h9.symm
                      subst h9
                      refine z_isub X dX9_wrong_142 ?_
                      refine z_iload X dX9_wrong_143 rfl ?_
                      refine z_imul X dX9_wrong_145 ?_
                      refine z_iadd X dX9_wrong_146 ?_
                      refine z_iastN X (zsa_51 hS) (by omega) (by omega) dX9_wrong_147 ?_
                      refine z_aload_n X dX9_wrong_148 rfl ?_
                      refine z_getr2 X fX9_98 (zso_21 hS) (zsr_21_38 hS) rfl dX9_wrong_149 ?_
                      refine z_iload X dX9_wrong_152 rfl ?_
                      refine z_ialdN X (zsa_51 hS) (by omega) (by omega) dX9_wrong_154 ?_
                      rw [z_up_app, if_pos rfl, if_pos rfl]
                      refine z_iret X (by decide) (by decide) rfl dX9_wrong_155 ?_
                      have e : d9 = 4 - q9 := by omega
                      subst e
                      exact ⟨rfl, _, rfl, Or.inr ⟨by unfold zyw; rw [if_neg (fun q => q ⟨c_6, by rw [zn_nI (by omega)]; exact hzy⟩), if_neg (fun q => q.elim c_44 c_55), zif_f (fun q => q (by rw [ex, ey]; exact ⟨c_70, c_79⟩))], m9, k9, q9, t9, V, hm9, rfl, hk9, rfl, by omega, rfl, by omega, rfl, by omega, eV, rfl, by rw [hτ]⟩⟩
                    · skip
                      try simp (disch := omega) only [zk0, nI_leI, nI_ltI, nI_eq, zbk_notn, zbk_not, zbk_n0, zbk_0, zb_0, zb_n0, zb_not, zb_notn, Bool.not_eq_false, Bool.not_eq_true, Bool.not_eq_true', Bool.not_eq_false', decide_eq_true_eq, decide_eq_false_iff_not, Classical.not_not] at c_105
                      refine z_iload X dX9_wrong_108 rfl ?_
                      refine z_bipush (v := nI 26) X (by decide) dX9_wrong_110 ?_
                      refine z_imulN X dX9_wrong_112 ?_
                      refine z_istore X dX9_wrong_113 (by decide) ?_
                      refine z_inc1 X dX9_wrong_115 rfl (by decide) ?_
                      refine z_goto (tgt := 102) X dX9_wrong_118 (by decide) ?_
                      exact ih_102 (d9 + 1) (by omega) (by omega)
                refine z_iload_n X dX9_wrong_99 rfl ?_
                refine z_istore X dX9_wrong_100 (by decide) ?_
                exact loop_102 (4 - 0 + 1) 0 (by omega) (by omega)
              · skip
                try simp (disch := omega) only [zb_notn, zb_not, zb_n0, zb_0, Bool.not_eq_false, Bool.not_eq_true, Bool.not_eq_true', Bool.not_eq_false', decide_eq_true_eq, decide_eq_false_iff_not, Classical.not_not] at c_79
                refine z_aload_n X dX9_wrong_82 rfl ?_
                refine z_iconst (v := 3) X (by decide) dX9_wrong_83 ?_
                refine z_runV X kX9_154 (tX9_fails _ hS) (zso_21 hS) rfl rfl (Nat.le_of_ble_eq_true rfl) ⟨by decide, by decide⟩ ⟨by decide, by decide⟩ dX9_wrong_84 ?_
                rintro _ g1 s1 ⟨rfl, h8, h9⟩
                replace h8 := h8.symm
                subst h8
                replace h9 := h9.symm
                subst h9
                refine z_iret X (by decide) (by decide) rfl dX9_wrong_87 ?_
                exact ⟨rfl, _, rfl, by rw [hτ]; exact zMP_2 (j := 2) (by unfold zyw; rw [if_neg (fun q => q ⟨c_6, by rw [zn_nI (by omega)]; exact hzy⟩), if_neg (fun q => q.elim c_44 c_55), zif_t (fun q => by rw [ex, ey] at q; first | exact c_70 q.1 | (rw [eτ 50 (by decide)] at c_79; exact c_79 q.2))]) rfl⟩
          · skip
            try simp (disch := omega) only [zb_notn, zb_not, zb_n0, zb_0, Bool.not_eq_false, Bool.not_eq_true, Bool.not_eq_true', Bool.not_eq_false', decide_eq_true_eq, decide_eq_false_iff_not, Classical.not_not] at c_55
            refine z_aload_n X dX9_wrong_58 rfl ?_
            refine z_iconst (v := 2) X (by decide) dX9_wrong_59 ?_
            refine z_runV X kX9_154 (tX9_fails _ hS) (zso_21 hS) rfl rfl (Nat.le_of_ble_eq_true rfl) ⟨by decide, by decide⟩ ⟨by decide, by decide⟩ dX9_wrong_60 ?_
            rintro _ g1 s1 ⟨rfl, h8, h9⟩
            replace h8 := h8.symm
            subst h8
            replace h9 := h9.symm
            subst h9
            refine z_iret X (by decide) (by decide) rfl dX9_wrong_63 ?_
            exact ⟨rfl, _, rfl, by rw [hτ]; exact zMP_2 (j := 1) (by unfold zyw; rw [if_neg (fun q => q ⟨c_6, by rw [zn_nI (by omega)]; exact hzy⟩), if_pos (by first | exact Or.inl c_44 | exact Or.inr c_55)]) rfl⟩
      · first | exact absurd c_33 (by decide) | exact absurd (by decide) c_33
