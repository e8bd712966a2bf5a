/-! contracts: messages at cables, rules at an office, one minute -/
def zF5 (σ σ' : zIn) : Prop := ∀ i k, ¬ (120 ≤ i ∧ i < 132 ∧ k = 5) → σ' i k = σ i k
theorem zF5_up {a σ : zIn} {c : Nat} {v : Int32} (h : zF5 a σ) (hc : c < 12) : zF5 a (z_up σ (120 + c) 5 v) := by
  intro i k hn
  by_cases e : i = 120 + c
  · subst e
    have hk : k ≠ 5 := fun q => hn ⟨by omega, by omega, q⟩
    simp only [z_up_app, reduceIte, if_neg hk]; exact h _ k hn
  · rw [z_up_ne e]; exact h i k hn
set_option maxHeartbeats 4000000 in
set_option maxRecDepth 100000 in
theorem tX4_routeRate {l : Launch} {D : va_G} {cy : Nat → ClassId} {z0 : zRg} {g : zSh} {σ : zIn} {nc n9 : Nat} {ro rt : Nat → Nat} (hS : zS g) (hK : zC g nc) (hnc : σ 13 5 = nI nc) (hrn : σ 13 6 = nI n9) (hn8 : n9 ≤ 8) (hro : ∀ i, i < n9 → σ 17 i = nI (ro i) ∧ ro i < nc) (hrt : ∀ c, c < nc → σ (120 + c) 2 = nI (rt c)) : z_Ct l D cy z0 MX4_routeRate [.ref (g.2.1 13)] g σ (zI (nI (zsum (fun i => rt (ro i)) n9)) g σ) := by
  have hk12 := hK.1
  refine z_ofM (by decide) (z_cr z_c0) (Nat.le_of_ble_eq_true rfl) ?_
  intro p e s m args below meth c X
  have loop_4 : ∀ (n : Nat) (k : Nat) (v : Option Value) (hk : k ≤ n9) (hn : n9 - k < n), z_V p l e (zRm MX4_routeRate) s m args below meth c 4 D cy z0 0 0 (zQm MX4_routeRate below D cy z0 (zI (nI (zsum (fun i => rt (ro i)) n9)) g σ) args s) 4 [some (.ref (g.2.1 13)), some (.int (nI (zsum (fun i => rt (ro i)) k))), some (.int (nI k)), v] [] g σ := by
    intro n
    induction n with
    | zero => intro k v hk hn; exact absurd hn (Nat.not_lt_zero _)
    | succ n ih_4 =>
      intro k v hk hn
      refine z_iload_n X dX4_routeRate_4 rfl ?_
      refine z_aload_n X dX4_routeRate_5 rfl ?_
      refine z_geti X fX4_37 (zso_13 hS) rfl dX4_routeRate_6 ?_
      try simp (disch := omega) only [z_up_app, z_put_app, reduceIte, Nat.reduceEqDiff, hrn]
      refine z_icmp_ge (tgt := 53) X dX4_routeRate_9 (by decide) (fun c_9 => ?_) (fun c_9 => ?_)
      · skip
        try simp (disch := omega) only [zk0, nI_leI, nI_ltI, nI_eq, zbk_notn, zbk_not, zbk_n0, zbk_0, zb_0, zb_n0, zb_not, zb_notn, Bool.not_eq_false, Bool.not_eq_true, Bool.not_eq_true', Bool.not_eq_false', decide_eq_true_eq, decide_eq_false_iff_not, Classical.not_not] at c_9
        refine z_iload_n X dX4_routeRate_53 rfl ?_
        refine z_iret X (by decide) (by decide) rfl dX4_routeRate_54 ?_
        have e : k = n9 := by omega
        subst e
        exact zI_e rfl rfl rfl
      · skip
        try simp (disch := omega) only [zk0, nI_leI, nI_ltI, nI_eq, zbk_notn, zbk_not, zbk_n0, zbk_0, zb_0, zb_n0, zb_not, zb_notn, Bool.not_eq_false, Bool.not_eq_true, Bool.not_eq_true', Bool.not_eq_false', decide_eq_true_eq, decide_eq_false_iff_not, Classical.not_not] at c_9
        refine z_iload_n X dX4_routeRate_12 rfl ?_
        refine z_aload_n X dX4_routeRate_13 rfl ?_
        refine z_getr2 X fX4_27 (zso_13 hS) (zsr_13_3 hS) rfl dX4_routeRate_14 ?_
        refine z_alen X (t := 0) (by decide) (zsa_17 hS) dX4_routeRate_17 ?_
        refine z_icmp_ge (tgt := 53) X dX4_routeRate_18 (by decide) (fun c_18 => ?_) (fun c_18 => ?_)
        · skip
          try simp (disch := omega) only [zk0, nI_leI, nI_ltI, nI_eq, zbk_notn, zbk_not, zbk_n0, zbk_0, zb_0, zb_n0, zb_not, zb_notn, Bool.not_eq_false, Bool.not_eq_true, Bool.not_eq_true', Bool.not_eq_false', decide_eq_true_eq, decide_eq_false_iff_not, Classical.not_not] at c_18
          omega
        · skip
          try simp (disch := omega) only [zk0, nI_leI, nI_ltI, nI_eq, zbk_notn, zbk_not, zbk_n0, zbk_0, zb_0, zb_n0, zb_not, zb_notn, Bool.not_eq_false, Bool.not_eq_true, Bool.not_eq_true', Bool.not_eq_false', decide_eq_true_eq, decide_eq_false_iff_not, Classical.not_not] at c_18
          refine z_aload_n X dX4_routeRate_21 rfl ?_
          refine z_aload_n X dX4_routeRate_22 rfl ?_
          refine z_getr2 X fX4_27 (zso_13 hS) (zsr_13_3 hS) rfl dX4_routeRate_23 ?_
          refine z_iload_n X dX4_routeRate_26 rfl ?_
          refine z_ialdN X (zsa_17 hS) (by omega) (by omega) dX4_routeRate_27 ?_
          rw [(hro k (by omega)).1]
          refine z_runV X kX4_48 (tX4_cableAt (ro k) hS hK hnc (hro k (by omega)).2) (zso_13 hS) rfl rfl (Nat.le_of_ble_eq_true rfl) ⟨by decide, by decide⟩ ⟨by decide, by decide⟩ dX4_routeRate_28 ?_
          rintro _ g1 s1 ⟨rfl, h8, h9⟩
          replace h8 := h8.symm
          subst h8
          replace h9 := h9.symm
          subst h9
          have hF := hK.2.1 (ro k) (hro k (by omega)).2
          refine z_astore_n X dX4_routeRate_31 (by decide) ?_
          refine z_iload_n X dX4_routeRate_32 rfl ?_
          refine z_aload_n X dX4_routeRate_33 rfl ?_
          refine z_ifnonnull (tgt := 41) X dX4_routeRate_34 (by decide) ?_
          refine z_aload_n X dX4_routeRate_41 rfl ?_
          refine z_geti X fX4_73 (hF.1) rfl dX4_routeRate_42 ?_
          try simp (disch := omega) only [z_up_app, z_put_app, reduceIte, Nat.reduceEqDiff, hrt (ro k) (hro k (by omega)).2]
          refine z_iaddN X dX4_routeRate_45 ?_
          refine z_istore_n X dX4_routeRate_46 (by decide) ?_
          refine z_inc1 X dX4_routeRate_47 rfl (by decide) ?_
          refine z_goto (tgt := 4) X dX4_routeRate_50 (by decide) ?_
          exact ih_4 (k + 1) _ (by omega) (by omega)
  refine z_iconst (v := nI 0) X (by decide) dX4_routeRate_0 ?_
  refine z_istore_n X dX4_routeRate_1 (by decide) ?_
  refine z_iconst (v := nI 0) X (by decide) dX4_routeRate_2 ?_
  refine z_istore_n X dX4_routeRate_3 (by decide) ?_
  exact loop_4 (n9 - 0 + 1) 0 _ (by omega) (by omega)

set_option maxHeartbeats 4000000 in
set_option maxRecDepth 100000 in
theorem tX4_startMinute {l : Launch} {D : va_G} {cy : Nat → ClassId} {z0 : zRg} {g : zSh} {σ : zIn} {nc : Nat} {sp : Nat → Nat} {br : Nat → Bool} (hS : zS g) (hK : zC g nc) (hnc : σ 13 5 = nI nc) (hsp : ∀ c, c < nc → σ (120 + c) 3 = nI (sp c) ∧ σ (120 + c) 4 = zb (br c)) : z_Ct l D cy z0 MX4_startMinute [.ref (g.2.1 13)] g σ (fun v g' σ' => v = none ∧ g' = g ∧ zF5 σ σ' ∧ ∀ c, c < nc → σ' (120 + c) 5 = nI (if br c then 0 else sp c)) := by
  have hk12 := hK.1
  refine z_ofM (by decide) (z_cr z_c0) (Nat.le_of_ble_eq_true rfl) ?_
  intro p e s m args below meth c X
  have loop_2 : ∀ (n : Nat) (k : Nat) (v : Option Value) (τ : zIn) (hk : k ≤ nc) (hf : zF5 σ τ) (hd : ∀ c, c < k → τ (120 + c) 5 = nI (if br c then 0 else sp c)) (hn : nc - k < n), z_V p l e (zRm MX4_startMinute) s m args below meth c 3 D cy z0 0 0 (zQm MX4_startMinute below D cy z0 (fun v g' σ' => v = none ∧ g' = g ∧ zF5 σ σ' ∧ ∀ c, c < nc → σ' (120 + c) 5 = nI (if br c then 0 else sp c)) args s) 2 [some (.ref (g.2.1 13)), some (.int (nI k)), v] [] g τ := by
    intro n
    induction n with
    | zero => intro k v τ hk hf hd hn; exact absurd hn (Nat.not_lt_zero _)
    | succ n ih_2 =>
      intro k v τ hk hf hd hn
      have eC : τ 13 5 = nI nc := by rw [hf 13 5 (by omega)]; exact hnc
      refine z_iload_n X dX4_startMinute_2 rfl ?_
      refine z_aload_n X dX4_startMinute_3 rfl ?_
      refine z_geti X fX4_34 (zso_13 hS) rfl dX4_startMinute_4 ?_
      try simp (disch := omega) only [z_up_app, z_put_app, reduceIte, Nat.reduceEqDiff, eC]
      refine z_icmp_ge (tgt := 45) X dX4_startMinute_7 (by decide) (fun c_7 => ?_) (fun c_7 => ?_)
      · skip
        try simp (disch := omega) only [zk0, nI_leI, nI_ltI, nI_eq, zbk_notn, zbk_not, zbk_n0, zbk_0, zb_0, zb_n0, zb_not, zb_notn, Bool.not_eq_false, Bool.not_eq_true, Bool.not_eq_true', Bool.not_eq_false', decide_eq_true_eq, decide_eq_false_iff_not, Classical.not_not] at c_7
        refine z_vret X (by decide) (by decide) rfl dX4_startMinute_45 ?_
        have e : k = nc := by omega
        subst e
        exact ⟨rfl, rfl, hf, hd⟩
      · skip
        try simp (disch := omega) only [zk0, nI_leI, nI_ltI, nI_eq, zbk_notn, zbk_not, zbk_n0, zbk_0, zb_0, zb_n0, zb_not, zb_notn, Bool.not_eq_false, Bool.not_eq_true, Bool.not_eq_true', Bool.not_eq_false', decide_eq_true_eq, decide_eq_false_iff_not, Classical.not_not] at c_7
        refine z_aload_n X dX4_startMinute_10 rfl ?_
        refine z_iload_n X dX4_startMinute_11 rfl ?_
        refine z_runV X kX4_48 (tX4_cableAt k hS hK eC (by omega)) (zso_13 hS) rfl rfl (Nat.le_of_ble_eq_true rfl) ⟨by decide, by decide⟩ ⟨by decide, by decide⟩ dX4_startMinute_12 ?_
        rintro _ g1 s1 ⟨rfl, h8, h9⟩
        replace h8 := h8.symm
        subst h8
        replace h9 := h9.symm
        subst h9
        have hF := hK.2.1 k (by omega)
        have e3 : τ (120 + k) 3 = nI (sp k) := by rw [hf _ 3 (by omega)]; exact (hsp k (by omega)).1
        have e4 : τ (120 + k) 4 = zb (br k) := by rw [hf _ 4 (by omega)]; exact (hsp k (by omega)).2
        refine z_astore_n X dX4_startMinute_15 (by decide) ?_
        refine z_aload_n X dX4_startMinute_16 rfl ?_
        refine z_ifnull X dX4_startMinute_17 ?_
        refine z_aload_n X dX4_startMinute_20 rfl ?_
        refine z_aload_n X dX4_startMinute_21 rfl ?_
        refine z_geti X fX4_52 (hF.1) rfl dX4_startMinute_22 ?_
        try simp (disch := omega) only [z_up_app, z_put_app, reduceIte, Nat.reduceEqDiff, e4]
        refine z_if_eq (tgt := 32) X dX4_startMinute_25 (by decide) (fun c_25 => ?_) (fun c_25 => ?_)
        · skip
          try simp (disch := omega) only [zk0, nI_leI, nI_ltI, nI_eq, zbk_notn, zbk_not, zbk_n0, zbk_0, zb_0, zb_n0, zb_not, zb_notn, Bool.not_eq_false, Bool.not_eq_true, Bool.not_eq_true', Bool.not_eq_false', decide_eq_true_eq, decide_eq_false_iff_not, Classical.not_not] at c_25
          refine z_aload_n X dX4_startMinute_32 rfl ?_
          refine z_geti X fX4_56 (hF.1) rfl dX4_startMinute_33 ?_
          try simp (disch := omega) only [z_up_app, z_put_app, reduceIte, Nat.reduceEqDiff, e3]
          refine z_puti X fX4_59 (hF.1) rfl dX4_startMinute_36 ?_
          refine z_inc1 X dX4_startMinute_39 rfl (by decide) ?_
          refine z_goto (tgt := 2) X dX4_startMinute_42 (by decide) ?_
          exact ih_2 (k + 1) _ _ (by omega) (zF5_up hf (by omega)) (fun c hc => by
            by_cases e : c = k
            · subst e; simp only [z_up_app, reduceIte, c_25]; all_goals (first | rfl | simp)
            · rw [z_up_ne (by omega)]; exact hd c (by omega)) (by omega)
        · skip
          try simp (disch := omega) only [zk0, nI_leI, nI_ltI, nI_eq, zbk_notn, zbk_not, zbk_n0, zbk_0, zb_0, zb_n0, zb_not, zb_notn, Bool.not_eq_false, Bool.not_eq_true, Bool.not_eq_true', Bool.not_eq_false', decide_eq_true_eq, decide_eq_false_iff_not, Classical.not_not] at c_25
          refine z_iconst (v := nI 0) X (by decide) dX4_startMinute_28 ?_
          refine z_goto (tgt := 36) X dX4_startMinute_29 (by decide) ?_
          refine z_puti X fX4_59 (hF.1) rfl dX4_startMinute_36 ?_
          refine z_inc1 X dX4_startMinute_39 rfl (by decide) ?_
          refine z_goto (tgt := 2) X dX4_startMinute_42 (by decide) ?_
          exact ih_2 (k + 1) _ _ (by omega) (zF5_up hf (by omega)) (fun c hc => by
            by_cases e : c = k
            · subst e; simp only [z_up_app, reduceIte, c_25]; all_goals (first | rfl | simp)
            · rw [z_up_ne (by omega)]; exact hd c (by omega)) (by omega)
  refine z_iconst (v := nI 0) X (by decide) dX4_startMinute_0 ?_
  refine z_istore_n X dX4_startMinute_1 (by decide) ?_
  exact loop_2 (nc - 0 + 1) 0 _ σ (by omega) (fun _ _ _ => rfl) (fun c h => absurd h (Nat.not_lt_zero _)) (by omega)

set_option maxHeartbeats 4000000 in
set_option maxRecDepth 100000 in
theorem tX8_messageAt {l : Launch} {D : va_G} {cy : Nat → ClassId} {z0 : zRg} {g : zSh} {σ : zIn} {nm : Nat} (k : Nat) (hS : zS g) (hG : zG g nm) (hnm : σ 1 8 = nI nm) (hk : k < nm) : z_Ct l D cy z0 MX8_messageAt [.ref (g.2.1 1), .int (nI k)] g σ (zX (.ref (g.2.1 (200 + k))) g σ) := by
  have hM := hG.2.1 k hk
  have hle := hG.1
  refine z_ofM (by decide) (z_cr (z_ci z_c0)) (Nat.le_of_ble_eq_true rfl) ?_
  intro p e s m args below meth c X
  refine z_iload_n X dX8_messageAt_0 rfl ?_
  refine z_iconst (v := nI 0) X (by decide) dX8_messageAt_1 ?_
  refine z_aload_n X dX8_messageAt_2 rfl ?_
  refine z_geti X fX8_62 (zso_1 hS) rfl dX8_messageAt_3 ?_
  try simp (disch := omega) only [z_up_app, z_put_app, reduceIte, Nat.reduceEqDiff, hnm]
  refine z_iconst (v := nI 1) X (by decide) dX8_messageAt_6 ?_
  refine z_isub X dX8_messageAt_7 ?_
  refine z_runS X kX8_68 (tOut (nI k) (by omega)) rfl rfl (Nat.le_of_ble_eq_true rfl) ⟨by decide, by decide⟩ ⟨by decide, by decide⟩ dX8_messageAt_8 ?_
  rintro _ g1 s1 ⟨rfl, h8, h9⟩
  replace h8 := h8.symm
  subst h8
  replace h9 := h9.symm
  subst h9
  rw [zin_nI hk (by omega)]
  refine z_if_ne (tgt := 23) X dX8_messageAt_11 (by decide) (fun c_11 => ?_) (fun c_11 => ?_)
  · exact absurd rfl c_11
  · skip
    try simp (disch := omega) only [zk0, nI_leI, nI_ltI, nI_eq, zbk_notn, zbk_not, zbk_n0, zbk_0, zb_0, zb_n0, zb_not, zb_notn, Bool.not_eq_false, Bool.not_eq_true, Bool.not_eq_true', Bool.not_eq_false', decide_eq_true_eq, decide_eq_false_iff_not, Classical.not_not] at c_11
    refine z_iload_n X dX8_messageAt_14 rfl ?_
    refine z_aload_n X dX8_messageAt_15 rfl ?_
    refine z_getr2 X fX8_54 (zso_1 hS) (zsr_1_6 hS) rfl dX8_messageAt_16 ?_
    refine z_alen X (t := 4) (by decide) (zsa_20 hS) dX8_messageAt_19 ?_
    refine z_icmp_lt (tgt := 27) X dX8_messageAt_20 (by decide) (fun c_20 => ?_) (fun c_20 => ?_)
    · skip
      try simp (disch := omega) only [zk0, nI_leI, nI_ltI, nI_eq, zbk_notn, zbk_not, zbk_n0, zbk_0, zb_0, zb_n0, zb_not, zb_notn, Bool.not_eq_false, Bool.not_eq_true, Bool.not_eq_true', Bool.not_eq_false', decide_eq_true_eq, decide_eq_false_iff_not, Classical.not_not] at c_20
      refine z_aload_n X dX8_messageAt_27 rfl ?_
      refine z_getr2 X fX8_54 (zso_1 hS) (zsr_1_6 hS) rfl dX8_messageAt_28 ?_
      refine z_iload_n X dX8_messageAt_31 rfl ?_
      refine z_aaldM X (t := 4) (by decide) rfl (zsa_20 hS) (by omega) (by omega) (hM.2.1) dX8_messageAt_32 ?_
      refine z_aret X (by decide) (by decide) rfl (Or.inl ⟨_, rfl⟩) (Or.inr ⟨_, rfl⟩) dX8_messageAt_33 ?_
      exact ⟨rfl, rfl, rfl⟩
    · skip
      try simp (disch := omega) only [zk0, nI_leI, nI_ltI, nI_eq, zbk_notn, zbk_not, zbk_n0, zbk_0, zb_0, zb_n0, zb_not, zb_notn, Bool.not_eq_false, Bool.not_eq_true, Bool.not_eq_true', Bool.not_eq_false', decide_eq_true_eq, decide_eq_false_iff_not, Classical.not_not] at c_20
      omega

set_option maxHeartbeats 4000000 in
set_option maxRecDepth 100000 in
theorem tX8_messageAtN {l : Launch} {D : va_G} {cy : Nat → ClassId} {z0 : zRg} {g : zSh} {σ : zIn} {nm : Nat} (i : Int32) (hS : zS g) (hG : zG g nm) (hnm : σ 1 8 = nI nm) (hk : zin i nm = false) : z_Ct l D cy z0 MX8_messageAt [.ref (g.2.1 1), .int i] g σ (zX .null g σ) := by
  have hle := hG.1
  refine z_ofM (by decide) (z_cr (z_ci z_c0)) (Nat.le_of_ble_eq_true rfl) ?_
  intro p e s m args below meth c X
  refine z_iload_n X dX8_messageAt_0 rfl ?_
  refine z_iconst (v := nI 0) X (by decide) dX8_messageAt_1 ?_
  refine z_aload_n X dX8_messageAt_2 rfl ?_
  refine z_geti X fX8_62 (zso_1 hS) rfl dX8_messageAt_3 ?_
  try simp (disch := omega) only [z_up_app, z_put_app, reduceIte, Nat.reduceEqDiff, hnm]
  refine z_iconst (v := nI 1) X (by decide) dX8_messageAt_6 ?_
  refine z_isub X dX8_messageAt_7 ?_
  refine z_runS X kX8_68 (tOut i (by omega)) rfl rfl (Nat.le_of_ble_eq_true rfl) ⟨by decide, by decide⟩ ⟨by decide, by decide⟩ dX8_messageAt_8 ?_
  rintro _ g1 s1 ⟨rfl, h8, h9⟩
  replace h8 := h8.symm
  subst h8
  replace h9 := h9.symm
  subst h9
  rw [hk]
  refine z_if_ne (tgt := 23) X dX8_messageAt_11 (by decide) (fun c_11 => ?_) (fun c_11 => ?_)
  · skip
    try simp (disch := omega) only [zk0, nI_leI, nI_ltI, nI_eq, zbk_notn, zbk_not, zbk_n0, zbk_0, zb_0, zb_n0, zb_not, zb_notn, Bool.not_eq_false, Bool.not_eq_true, Bool.not_eq_true', Bool.not_eq_false', decide_eq_true_eq, decide_eq_false_iff_not, Classical.not_not] at c_11
    refine z_null X dX8_messageAt_23 ?_
    refine z_goto (tgt := 33) X dX8_messageAt_24 (by decide) ?_
    refine z_aret X (by decide) (by decide) rfl (Or.inl ⟨_, rfl⟩) (Or.inl rfl) dX8_messageAt_33 ?_
    exact ⟨rfl, rfl, rfl⟩
  · exact absurd c_11 (by decide)

/-- the cable at which message m is, -1 without -/
def zcab (σ : zIn) (m : Nat) : Int32 := if σ (200 + m) 9 = 0 then σ (500 + m) (σ (200 + m) 11).toNatClampNeg else -1
/-- legs stand on their routes -/
def zLg (g : zSh) (σ : zIn) (nm : Nat) : Prop := ∀ m, m < nm → g.2.2.2.1 (500 + m) ≤ 8 ∧ (σ (200 + m) 9 = 0 → ∃ q, q < g.2.2.2.1 (500 + m) ∧ σ (200 + m) 11 = nI q)
set_option maxHeartbeats 4000000 in
set_option maxRecDepth 100000 in
theorem tX8_countAtCable {l : Launch} {D : va_G} {cy : Nat → ClassId} {z0 : zRg} {g : zSh} {σ : zIn} {nm : Nat} (cc9 : Int32) (hS : zS g) (hG : zG g nm) (hnm : σ 1 8 = nI nm) (hLg : zLg g σ nm) : z_Ct l D cy z0 MX8_countAtCable [.ref (g.2.1 1), .int cc9] g σ (zI (nI (zcnt (fun m => zcab σ m = cc9) nm)) g σ) := by
  have hle := hG.1
  refine z_ofM (by decide) (z_cr (z_ci z_c0)) (Nat.le_of_ble_eq_true rfl) ?_
  intro p e s m args below meth c X
  have loop_4 : ∀ (n : Nat) (k : Nat) (v : Option Value) (hk : k ≤ nm) (hn : nm - k < n), z_V p l e (zRm MX8_countAtCable) s m args below meth c 5 D cy z0 0 0 (zQm MX8_countAtCable below D cy z0 (zI (nI (zcnt (fun m => zcab σ m = cc9) nm)) g σ) args s) 4 [some (.ref (g.2.1 1)), some (.int cc9), some (.int (nI (zcnt (fun m => zcab σ m = cc9) k))), some (.int (nI k)), v] [] g σ := by
    intro n
    induction n with
    | zero => intro k v hk hn; exact absurd hn (Nat.not_lt_zero _)
    | succ n ih_4 =>
      intro k v hk hn
      refine z_iload_n X dX8_countAtCable_4 rfl ?_
      refine z_aload_n X dX8_countAtCable_5 rfl ?_
      refine z_geti X fX8_62 (zso_1 hS) rfl dX8_countAtCable_6 ?_
      try simp (disch := omega) only [z_up_app, z_put_app, reduceIte, Nat.reduceEqDiff, hnm]
      refine z_icmp_ge (tgt := 42) X dX8_countAtCable_9 (by decide) (fun c_9 => ?_) (fun c_9 => ?_)
      · skip
        try simp (disch := omega) only [zk0, nI_leI, nI_ltI, nI_eq, zbk_notn, zbk_not, zbk_n0, zbk_0, zb_0, zb_n0, zb_not, zb_notn, Bool.not_eq_false, Bool.not_eq_true, Bool.not_eq_true', Bool.not_eq_false', decide_eq_true_eq, decide_eq_false_iff_not, Classical.not_not] at c_9
        refine z_iload_n X dX8_countAtCable_42 rfl ?_
        refine z_iret X (by decide) (by decide) rfl dX8_countAtCable_43 ?_
        have e : k = nm := by omega
        subst e
        exact zI_e rfl rfl rfl
      · skip
        try simp (disch := omega) only [zk0, nI_leI, nI_ltI, nI_eq, zbk_notn, zbk_not, zbk_n0, zbk_0, zb_0, zb_n0, zb_not, zb_notn, Bool.not_eq_false, Bool.not_eq_true, Bool.not_eq_true', Bool.not_eq_false', decide_eq_true_eq, decide_eq_false_iff_not, Classical.not_not] at c_9
        refine z_aload_n X dX8_countAtCable_12 rfl ?_
        refine z_iload_n X dX8_countAtCable_13 rfl ?_
        refine z_runV X kX8_227 (tX8_messageAt k hS hG hnm (by omega)) (zso_1 hS) rfl rfl (Nat.le_of_ble_eq_true rfl) ⟨by decide, by decide⟩ ⟨by decide, by decide⟩ dX8_countAtCable_14 ?_
        rintro _ g1 s1 ⟨rfl, h8, h9⟩
        replace h8 := h8.symm
        subst h8
        replace h9 := h9.symm
        subst h9
        have hM := hG.2.1 k (by omega)
        refine z_astore X dX8_countAtCable_17 (by decide) ?_
        refine z_aload X dX8_countAtCable_19 rfl ?_
        refine z_ifnull X dX8_countAtCable_21 ?_
        refine z_aload X dX8_countAtCable_24 rfl ?_
        refine z_runV X kX8_281 (tX3_cableNow hG (show k < nm by omega) (hLg k (by omega)).1 (hLg k (by omega)).2) (hM.1) rfl rfl (Nat.le_of_ble_eq_true rfl) ⟨by decide, by decide⟩ ⟨by decide, by decide⟩ dX8_countAtCable_26 ?_
        rintro _ g1 s1 ⟨rfl, h8, h9⟩
        replace h8 := h8.symm
        subst h8
        replace h9 := h9.symm
        subst h9
        refine z_iload_n X dX8_countAtCable_29 rfl ?_
        refine z_icmp_ne (tgt := 36) X dX8_countAtCable_30 (by decide) (fun c_30 => ?_) (fun c_30 => ?_)
        · skip
          refine z_inc1 X dX8_countAtCable_36 rfl (by decide) ?_
          refine z_goto (tgt := 4) X dX8_countAtCable_39 (by decide) ?_
          have e2 := fun v => ih_4 (k + 1) v (by omega) (by omega)
          first
            | (rw [zcnt_y (P := fun m => zcab σ m = cc9) (n := k) c_30] at e2; exact e2 _)
            | (rw [zcnt_n (P := fun m => zcab σ m = cc9) (n := k) c_30] at e2; exact e2 _)
        · skip
          refine z_inc1 X dX8_countAtCable_33 rfl (by decide) ?_
          refine z_inc1 X dX8_countAtCable_36 rfl (by decide) ?_
          refine z_goto (tgt := 4) X dX8_countAtCable_39 (by decide) ?_
          have e2 := fun v => ih_4 (k + 1) v (by omega) (by omega)
          first
            | (rw [zcnt_y (P := fun m => zcab σ m = cc9) (n := k) c_30] at e2; exact e2 _)
            | (rw [zcnt_n (P := fun m => zcab σ m = cc9) (n := k) c_30] at e2; exact e2 _)
  refine z_iconst (v := nI 0) X (by decide) dX8_countAtCable_0 ?_
  refine z_istore_n X dX8_countAtCable_1 (by decide) ?_
  refine z_iconst (v := nI 0) X (by decide) dX8_countAtCable_2 ?_
  refine z_istore_n X dX8_countAtCable_3 (by decide) ?_
  exact loop_4 (nm - 0 + 1) 0 _ (by omega) (by omega)

set_option maxHeartbeats 4000000 in
set_option maxRecDepth 100000 in
theorem tX8_isAnyUnderway {l : Launch} {D : va_G} {cy : Nat → ClassId} {z0 : zRg} {g : zSh} {σ : zIn} {nm : Nat} (hS : zS g) (hG : zG g nm) (hnm : σ 1 8 = nI nm) : z_Ct l D cy z0 MX8_isAnyUnderway [.ref (g.2.1 1)] g σ (fun v g' σ' => ∃ b : Bool, v = some (.int (zb b)) ∧ g' = g ∧ σ' = σ ∧ (b = true ↔ ∃ m, m < nm ∧ σ (200 + m) 9 = 0)) := by
  have hle := hG.1
  refine z_ofM (by decide) (z_cr z_c0) (Nat.le_of_ble_eq_true rfl) ?_
  intro p e s m args below meth c X
  have loop_2 : ∀ (n : Nat) (k : Nat) (v : Option Value) (hk : k ≤ nm) (hj : ∀ j, j < k → ¬ σ (200 + j) 9 = 0) (hn : nm - k < n), z_V p l e (zRm MX8_isAnyUnderway) s m args below meth c 3 D cy z0 0 0 (zQm MX8_isAnyUnderway below D cy z0 (fun v g' σ' => ∃ b : Bool, v = some (.int (zb b)) ∧ g' = g ∧ σ' = σ ∧ (b = true ↔ ∃ m, m < nm ∧ σ (200 + m) 9 = 0)) args s) 2 [some (.ref (g.2.1 1)), some (.int (nI k)), v] [] g σ := by
    intro n
    induction n with
    | zero => intro k v hk hj hn; exact absurd hn (Nat.not_lt_zero _)
    | succ n ih_2 =>
      intro k v hk hj hn
      refine z_iload_n X dX8_isAnyUnderway_2 rfl ?_
      refine z_aload_n X dX8_isAnyUnderway_3 rfl ?_
      refine z_geti X fX8_62 (zso_1 hS) rfl dX8_isAnyUnderway_4 ?_
      try simp (disch := omega) only [z_up_app, z_put_app, reduceIte, Nat.reduceEqDiff, hnm]
      refine z_icmp_ge (tgt := 35) X dX8_isAnyUnderway_7 (by decide) (fun c_7 => ?_) (fun c_7 => ?_)
      · skip
        try simp (disch := omega) only [zk0, nI_leI, nI_ltI, nI_eq, zbk_notn, zbk_not, zbk_n0, zbk_0, zb_0, zb_n0, zb_not, zb_notn, Bool.not_eq_false, Bool.not_eq_true, Bool.not_eq_true', Bool.not_eq_false', decide_eq_true_eq, decide_eq_false_iff_not, Classical.not_not] at c_7
        refine z_iconst (v := nI 0) X (by decide) dX8_isAnyUnderway_35 ?_
        refine z_zret X (by decide) (by decide) rfl (by first | exact Or.inl rfl | exact Or.inr rfl | exact zb_01 _ | assumption) dX8_isAnyUnderway_36 ?_
        first
          | exact ⟨true, rfl, rfl, rfl, by simp only [true_iff]; exact ⟨k, by omega, c_24⟩⟩
          | exact ⟨false, rfl, rfl, rfl, by simp only [Bool.false_eq_true, false_iff]; rintro ⟨m, h1, h2⟩; exact hj m (by omega) h2⟩
      · skip
        try simp (disch := omega) only [zk0, nI_leI, nI_ltI, nI_eq, zbk_notn, zbk_not, zbk_n0, zbk_0, zb_0, zb_n0, zb_not, zb_notn, Bool.not_eq_false, Bool.not_eq_true, Bool.not_eq_true', Bool.not_eq_false', decide_eq_true_eq, decide_eq_false_iff_not, Classical.not_not] at c_7
        refine z_aload_n X dX8_isAnyUnderway_10 rfl ?_
        refine z_iload_n X dX8_isAnyUnderway_11 rfl ?_
        refine z_runV X kX8_227 (tX8_messageAt k hS hG hnm (by omega)) (zso_1 hS) rfl rfl (Nat.le_of_ble_eq_true rfl) ⟨by decide, by decide⟩ ⟨by decide, by decide⟩ dX8_isAnyUnderway_12 ?_
        rintro _ g1 s1 ⟨rfl, h8, h9⟩
        replace h8 := h8.symm
        subst h8
        replace h9 := h9.symm
        subst h9
        have hM := hG.2.1 k (by omega)
        refine z_astore_n X dX8_isAnyUnderway_15 (by decide) ?_
        refine z_aload_n X dX8_isAnyUnderway_16 rfl ?_
        refine z_ifnull X dX8_isAnyUnderway_17 ?_
        refine z_aload_n X dX8_isAnyUnderway_20 rfl ?_
        refine z_geti X fX8_238 (hM.1) rfl dX8_isAnyUnderway_21 ?_
        try simp (disch := omega) only [z_up_app, z_put_app, reduceIte, Nat.reduceEqDiff, hnm]
        refine z_if_ne (tgt := 29) X dX8_isAnyUnderway_24 (by decide) (fun c_24 => ?_) (fun c_24 => ?_)
        · skip
          refine z_inc1 X dX8_isAnyUnderway_29 rfl (by decide) ?_
          refine z_goto (tgt := 2) X dX8_isAnyUnderway_32 (by decide) ?_
          exact ih_2 (k + 1) _ (by omega) (fun j h9 => by
            by_cases e : j = k
            · subst e; exact c_24
            · exact hj j (by omega)) (by omega)
        · skip
          refine z_iconst (v := nI 1) X (by decide) dX8_isAnyUnderway_27 ?_
          refine z_zret X (by decide) (by decide) rfl (by first | exact Or.inl rfl | exact Or.inr rfl | exact zb_01 _ | assumption) dX8_isAnyUnderway_28 ?_
          first
            | exact ⟨true, rfl, rfl, rfl, by simp only [true_iff]; exact ⟨k, by omega, c_24⟩⟩
            | exact ⟨false, rfl, rfl, rfl, by simp only [Bool.false_eq_true, false_iff]; rintro ⟨m, h1, h2⟩; exact hj m (by omega) h2⟩
  refine z_iconst (v := nI 0) X (by decide) dX8_isAnyUnderway_0 ?_
  refine z_istore_n X dX8_isAnyUnderway_1 (by decide) ?_
  exact loop_2 (nm - 0 + 1) 0 _ (by omega) (fun j h => absurd h (Nat.not_lt_zero _)) (by omega)

/-- rules k count at office o on a day -/
def zrc (σ : zIn) (dy : Nat → Nat) (day o k : Nat) : Prop := dy k ≤ day ∧ σ (110 + o) (k + 1) = 0
def zRu (σ : zIn) (nr : Nat) (dy : Nat → Nat) : Prop := ∀ k, k < nr → σ (140 + k) 0 = nI (k + 1) ∧ σ (140 + k) 1 = nI (dy k) ∧ dy k ≤ 1000
def zrat (σ : zIn) (dy : Nat → Nat) (day nr o j : Nat) : Prop := (∃ k, k < nr ∧ j = 140 + k ∧ zrc σ dy day o k ∧ ∀ k', k' < nr → k < k' → ¬ zrc σ dy day o k') ∨ (j = 18 ∧ ∀ k, k < nr → ¬ zrc σ dy day o k)
set_option maxHeartbeats 4000000 in
set_option maxRecDepth 100000 in
theorem tX8_rulesAt {l : Launch} {D : va_G} {cy : Nat → ClassId} {z0 : zRg} {g : zSh} {σ : zIn} {nr no mi o : Nat} {dy : Nat → Nat} (hS : zS g) (hU : zU g nr) (hnr : σ 1 7 = nI nr) (hmi : σ 1 9 = nI mi) (hmi2 : mi ≤ 1000000) (hRu : zRu σ nr dy) (hO : zO g no) (ho : o < no) : z_Ct l D cy z0 MX8_rulesAt [.ref (g.2.1 1), .ref (g.2.1 (100 + o))] g σ (fun v g' σ' => ∃ j, v = some (.ref (g.2.1 j)) ∧ g' = g ∧ σ' = σ ∧ zrat σ dy (mi / 1440) nr o j) := by
  have hF := hO.2.1 o ho
  have hle := hU.1
  refine z_ofM (by decide) (z_cr (z_cr z_c0)) (Nat.le_of_ble_eq_true rfl) ?_
  intro p e s m args below meth c X
  have loop_24 : ∀ (n : Nat) (k1 : Nat) (v : Option Value) (hk : k1 ≤ nr) (hj : ∀ k, k < nr → k1 ≤ k → ¬ zrc σ dy (mi / 1440) o k) (hn : k1 < n), z_V p l e (zRm MX8_rulesAt) s m args below meth c 5 D cy z0 0 0 (zQm MX8_rulesAt below D cy z0 (fun v g' σ' => ∃ j, v = some (.ref (g.2.1 j)) ∧ g' = g ∧ σ' = σ ∧ zrat σ dy (mi / 1440) nr o j) args s) 24 [some (.ref (g.2.1 1)), some (.ref (g.2.1 (100 + o))), some (.int (nI (mi / 1440))), some (.int (nI k1 - nI 1)), v] [] g σ := by
    intro n
    induction n with
    | zero => intro k1 v hk hj hn; exact absurd hn (Nat.not_lt_zero _)
    | succ n ih_24 =>
      intro k1 v hk hj hn
      refine z_iload_n X dX8_rulesAt_24 rfl ?_
      refine z_if_lt (tgt := 71) X dX8_rulesAt_25 (by decide) (fun c_25 => ?_) (fun c_25 => ?_)
      · skip
        refine z_aload_n X dX8_rulesAt_71 rfl ?_
        refine z_getr2 X fX8_44 (zso_1 hS) (zsr_1_4 hS) rfl dX8_rulesAt_72 ?_
        refine z_aret X (by decide) (by decide) rfl (Or.inl ⟨_, rfl⟩) (Or.inr ⟨_, rfl⟩) dX8_rulesAt_75 ?_
        have hp0 : k1 = 0 := by
          rcases Nat.eq_zero_or_pos k1 with h | h
          · exact h
          · rw [pk_sub (by omega)] at c_25; exact absurd c_25 (nI_pos (by omega))
        subst hp0
        exact ⟨_, rfl, rfl, rfl, Or.inr ⟨rfl, fun k h => hj k h (Nat.zero_le _)⟩⟩
      · skip
        have hp0 : k1 ≠ 0 := by
          intro h; subst h; exact c_25 (by decide)
        obtain ⟨k, rfl⟩ : ∃ q, k1 = q + 1 := ⟨k1 - 1, by omega⟩
        rw [show nI (k + 1) - nI 1 = nI k from by rw [pk_sub (by omega), Nat.add_sub_cancel]]
        have hR := hU.2.1 k (by omega)
        obtain ⟨q1, q2, q3⟩ := hRu k (by omega)
        refine z_aload_n X dX8_rulesAt_28 rfl ?_
        refine z_getr2 X fX8_48 (zso_1 hS) (zsr_1_5 hS) rfl dX8_rulesAt_29 ?_
        refine z_iload_n X dX8_rulesAt_32 rfl ?_
        refine z_aaldM X (t := 6) (by decide) rfl (zsa_19 hS) (by omega) (by omega) (hR.2) dX8_rulesAt_33 ?_
        refine z_astore X dX8_rulesAt_34 (by decide) ?_
        refine z_aload X dX8_rulesAt_36 rfl ?_
        refine z_ifnull X dX8_rulesAt_38 ?_
        refine z_aload X dX8_rulesAt_41 rfl ?_
        refine z_geti X fX8_331 (hR.1) rfl dX8_rulesAt_43 ?_
        try simp (disch := omega) only [z_up_app, z_put_app, reduceIte, Nat.reduceEqDiff, q1, q2]
        refine z_iload_n X dX8_rulesAt_46 rfl ?_
        refine z_icmp_gt (tgt := 65) X dX8_rulesAt_47 (by decide) (fun c_47 => ?_) (fun c_47 => ?_)
        · skip
          try simp (disch := omega) only [zk0, nI_leI, nI_ltI, nI_eq, zbk_notn, zbk_not, zbk_n0, zbk_0, zb_0, zb_n0, zb_not, zb_notn, Bool.not_eq_false, Bool.not_eq_true, Bool.not_eq_true', Bool.not_eq_false', decide_eq_true_eq, decide_eq_false_iff_not, Classical.not_not] at c_47
          refine z_iinc (v := -1) X dX8_rulesAt_65 rfl (by decide) (by decide) ?_
          refine z_goto (tgt := 24) X dX8_rulesAt_68 (by decide) ?_
          rw [zm1]
          exact ih_24 k _ (by omega) (fun k' h1 h2 => by
            by_cases e : k' = k
            · subst e; rintro ⟨z1, z2⟩; first | (exfalso; omega) | exact (of_decide_eq_true c_59) z2
            · exact hj k' h1 (by omega)) (by omega)
        · skip
          try simp (disch := omega) only [zk0, nI_leI, nI_ltI, nI_eq, zbk_notn, zbk_not, zbk_n0, zbk_0, zb_0, zb_n0, zb_not, zb_notn, Bool.not_eq_false, Bool.not_eq_true, Bool.not_eq_true', Bool.not_eq_false', decide_eq_true_eq, decide_eq_false_iff_not, Classical.not_not] at c_47
          refine z_aload_n X dX8_rulesAt_50 rfl ?_
          refine z_aload X dX8_rulesAt_51 rfl ?_
          refine z_geti X fX8_190 (hR.1) rfl dX8_rulesAt_53 ?_
          try simp (disch := omega) only [z_up_app, z_put_app, reduceIte, Nat.reduceEqDiff, q1, q2]
          refine z_runV X kX8_334 (tX5_reserves (k + 1) hO ho (by omega)) (hF.1) rfl rfl (Nat.le_of_ble_eq_true rfl) ⟨by decide, by decide⟩ ⟨by decide, by decide⟩ dX8_rulesAt_56 ?_
          rintro _ g1 s1 ⟨rfl, h8, h9⟩
          replace h8 := h8.symm
          subst h8
          replace h9 := h9.symm
          subst h9
          refine z_if_ne (tgt := 65) X dX8_rulesAt_59 (by decide) (fun c_59 => ?_) (fun c_59 => ?_)
          · skip
            try simp (disch := omega) only [zk0, nI_leI, nI_ltI, nI_eq, zbk_notn, zbk_not, zbk_n0, zbk_0, zb_0, zb_n0, zb_not, zb_notn, Bool.not_eq_false, Bool.not_eq_true, Bool.not_eq_true', Bool.not_eq_false', decide_eq_true_eq, decide_eq_false_iff_not, Classical.not_not] at c_59
            refine z_iinc (v := -1) X dX8_rulesAt_65 rfl (by decide) (by decide) ?_
            refine z_goto (tgt := 24) X dX8_rulesAt_68 (by decide) ?_
            rw [zm1]
            exact ih_24 k _ (by omega) (fun k' h1 h2 => by
              by_cases e : k' = k
              · subst e; rintro ⟨z1, z2⟩; first | (exfalso; omega) | exact (of_decide_eq_true c_59) z2
              · exact hj k' h1 (by omega)) (by omega)
          · skip
            try simp (disch := omega) only [zk0, nI_leI, nI_ltI, nI_eq, zbk_notn, zbk_not, zbk_n0, zbk_0, zb_0, zb_n0, zb_not, zb_notn, Bool.not_eq_false, Bool.not_eq_true, Bool.not_eq_true', Bool.not_eq_false', decide_eq_true_eq, decide_eq_false_iff_not, Classical.not_not] at c_59
            refine z_aload X dX8_rulesAt_62 rfl ?_
            refine z_aret X (by decide) (by decide) rfl (Or.inl ⟨_, rfl⟩) (Or.inr ⟨_, rfl⟩) dX8_rulesAt_64 ?_
            have hz51 : σ (110 + o) (k + 1) = 0 := Decidable.of_not_not (of_decide_eq_false c_59)
            exact ⟨_, rfl, rfl, rfl, Or.inl ⟨k, by omega, rfl, ⟨by omega, hz51⟩, fun k' h1 h2 => hj k' h1 (by omega)⟩⟩
  refine z_aload_n X dX8_rulesAt_0 rfl ?_
  refine z_geti X fX8_65 (zso_1 hS) rfl dX8_rulesAt_1 ?_
  try simp (disch := omega) only [z_up_app, z_put_app, reduceIte, Nat.reduceEqDiff, hmi, hnr]
  refine z_sipush (v := nI 1440) X (by decide) dX8_rulesAt_4 ?_
  refine z_idivN X (by omega) (by omega) (by omega) dX8_rulesAt_7 ?_
  refine z_istore_n X dX8_rulesAt_8 (by decide) ?_
  refine z_aload_n X dX8_rulesAt_9 rfl ?_
  refine z_geti X fX8_58 (zso_1 hS) rfl dX8_rulesAt_10 ?_
  try simp (disch := omega) only [z_up_app, z_put_app, reduceIte, Nat.reduceEqDiff, hmi, hnr]
  refine z_aload_n X dX8_rulesAt_13 rfl ?_
  refine z_getr2 X fX8_48 (zso_1 hS) (zsr_1_5 hS) rfl dX8_rulesAt_14 ?_
  refine z_alen X (t := 6) (by decide) (zsa_19 hS) dX8_rulesAt_17 ?_
  refine z_runS X kX8_326 (tJ9_min_7cf53 (nI nr) (nI 12)) rfl rfl (Nat.le_of_ble_eq_true rfl) ⟨by decide, by decide⟩ ⟨by decide, by decide⟩ dX8_rulesAt_18 ?_
  rintro _ g1 s1 ⟨rfl, h8, h9⟩
  replace h8 := h8.symm
  subst h8
  replace h9 := h9.symm
  subst h9
  rw [zmin_n (by omega) (by omega), Nat.min_eq_left hle]
  refine z_iconst (v := nI 1) X (by decide) dX8_rulesAt_21 ?_
  refine z_isub X dX8_rulesAt_22 ?_
  refine z_istore_n X dX8_rulesAt_23 (by decide) ?_
  exact loop_24 (nr + 1) nr _ (by omega) (fun k h1 h2 => by omega) (by omega)

def zcome (g : zSh) (σ : zIn) (m o : Nat) (hc fb : Bool) (lg : Nat) : zIn :=
  if hc && fb then z_up (z_up (z_up σ (200 + m) 10 (nI o)) (200 + m) 12 (σ (200 + m) 3)) (200 + m) 9 2
  else if g.2.2.2.1 (500 + m) ≤ lg then z_up (z_up (z_up σ (200 + m) 10 (nI o)) (200 + m) 12 (σ (200 + m) 3)) (200 + m) 9 1
  else z_up (z_up σ (200 + m) 10 (nI o)) (200 + m) 12 (σ (200 + m) 3)
set_option maxHeartbeats 4000000 in
set_option maxRecDepth 100000 in
theorem tX8_comeTo {l : Launch} {D : va_G} {cy : Nat → ClassId} {z0 : zRg} {g : zSh} {σ : zIn} {no nm m9 lg : Nat} {hc fb : Bool} (o : Nat) (hS : zS g) (hO : zO g no) (hno : σ 13 4 = nI no) (hG : zG g nm) (hm : m9 < nm) (ho : o < no) (hhc : σ (200 + m9) 5 = zb hc) (hfb : σ (100 + o) 2 = zb fb) (hlg : σ (200 + m9) 11 = nI lg) (hlg2 : lg ≤ 100) (hrl : g.2.2.2.1 (500 + m9) ≤ 8) : z_Ct l D cy z0 MX8_comeTo [.ref (g.2.1 1), .ref (g.2.1 (200 + m9)), .int (nI o)] g σ (zN g (zcome g σ m9 o hc fb lg)) := by
  have hM := hG.2.1 m9 hm
  have hF := hO.2.1 o ho
  have hle := hO.1
  have hle2 := hG.1
  refine z_ofM (by decide) (z_cr (z_cr (z_ci z_c0))) (Nat.le_of_ble_eq_true rfl) ?_
  intro p e s m args below meth c X
  refine z_aload_n X dX8_comeTo_0 rfl ?_
  refine z_getr2 X fX8_35 (zso_1 hS) (zsr_1_3 hS) rfl dX8_comeTo_1 ?_
  refine z_iload_n X dX8_comeTo_4 rfl ?_
  refine z_runV X kX8_138 (tX4_officeAt o hS hO hno ho) (zso_13 hS) rfl rfl (Nat.le_of_ble_eq_true rfl) ⟨by decide, by decide⟩ ⟨by decide, by decide⟩ dX8_comeTo_5 ?_
  rintro _ g1 s1 ⟨rfl, h8, h9⟩
  replace h8 := h8.symm
  subst h8
  replace h9 := h9.symm
  subst h9
  refine z_astore_n X dX8_comeTo_8 (by decide) ?_
  refine z_aload_n X dX8_comeTo_9 rfl ?_
  refine z_iload_n X dX8_comeTo_10 rfl ?_
  refine z_puti X fX8_284 (hM.1) rfl dX8_comeTo_11 ?_
  refine z_aload_n X dX8_comeTo_14 rfl ?_
  refine z_aload_n X dX8_comeTo_15 rfl ?_
  refine z_geti X fX8_277 (hM.1) rfl dX8_comeTo_16 ?_
  try simp (disch := omega) only [z_up_app, z_put_app, reduceIte, Nat.reduceEqDiff, hhc, hlg, if_neg (show ¬ (200 + m9 = 100 + o) by omega), if_neg (show ¬ (100 + o = 200 + m9) by omega), hfb]
  refine z_puti X fX8_365 (hM.1) rfl dX8_comeTo_19 ?_
  refine z_aload_n X dX8_comeTo_22 rfl ?_
  refine z_geti X fX8_377 (hM.1) rfl dX8_comeTo_23 ?_
  try simp (disch := omega) only [z_up_app, z_put_app, reduceIte, Nat.reduceEqDiff, hhc, hlg, if_neg (show ¬ (200 + m9 = 100 + o) by omega), if_neg (show ¬ (100 + o = 200 + m9) by omega), hfb]
  refine z_if_eq (tgt := 48) X dX8_comeTo_26 (by decide) (fun c_26 => ?_) (fun c_26 => ?_)
  · skip
    try simp (disch := omega) only [zk0, nI_leI, nI_ltI, nI_eq, zbk_notn, zbk_not, zbk_n0, zbk_0, zb_0, zb_n0, zb_not, zb_notn, Bool.not_eq_false, Bool.not_eq_true, Bool.not_eq_true', Bool.not_eq_false', decide_eq_true_eq, decide_eq_false_iff_not, Classical.not_not] at c_26
    refine z_aload_n X dX8_comeTo_48 rfl ?_
    refine z_geti X fX8_371 (hM.1) rfl dX8_comeTo_49 ?_
    try simp (disch := omega) only [z_up_app, z_put_app, reduceIte, Nat.reduceEqDiff, hhc, hlg, if_neg (show ¬ (200 + m9 = 100 + o) by omega), if_neg (show ¬ (100 + o = 200 + m9) by omega), hfb]
    refine z_aload_n X dX8_comeTo_52 rfl ?_
    refine z_getr2 X fX8_340 (hM.1) (hM.2.2.2.2.1) rfl dX8_comeTo_53 ?_
    refine z_alen X (t := 0) (by decide) (hM.2.2.2.2.2.2.2) dX8_comeTo_56 ?_
    refine z_icmp_lt (tgt := 65) X dX8_comeTo_57 (by decide) (fun c_57 => ?_) (fun c_57 => ?_)
    · skip
      try simp (disch := omega) only [zk0, nI_leI, nI_ltI, nI_eq, zbk_notn, zbk_not, zbk_n0, zbk_0, zb_0, zb_n0, zb_not, zb_notn, Bool.not_eq_false, Bool.not_eq_true, Bool.not_eq_true', Bool.not_eq_false', decide_eq_true_eq, decide_eq_false_iff_not, Classical.not_not] at c_57
      refine z_vret X (by decide) (by decide) rfl dX8_comeTo_65 ?_
      first
        | exact ⟨rfl, rfl, by unfold zcome; rw [c_26, c_37]; rfl⟩
        | exact ⟨rfl, rfl, by unfold zcome; rw [c_26, c_37, if_neg (by decide), if_pos (by omega)]; rfl⟩
        | exact ⟨rfl, rfl, by unfold zcome; rw [c_26, c_37, if_neg (by decide), if_neg (by omega)]⟩
        | exact ⟨rfl, rfl, by unfold zcome; rw [c_26, if_neg (by cases fb <;> decide), if_pos (by omega)]; rfl⟩
        | exact ⟨rfl, rfl, by unfold zcome; rw [c_26, if_neg (by cases fb <;> decide), if_neg (by omega)]⟩
    · skip
      try simp (disch := omega) only [zk0, nI_leI, nI_ltI, nI_eq, zbk_notn, zbk_not, zbk_n0, zbk_0, zb_0, zb_n0, zb_not, zb_notn, Bool.not_eq_false, Bool.not_eq_true, Bool.not_eq_true', Bool.not_eq_false', decide_eq_true_eq, decide_eq_false_iff_not, Classical.not_not] at c_57
      refine z_aload_n X dX8_comeTo_60 rfl ?_
      refine z_iconst (v := nI 1) X (by decide) dX8_comeTo_61 ?_
      refine z_puti X fX8_238 (hM.1) rfl dX8_comeTo_62 ?_
      refine z_vret X (by decide) (by decide) rfl dX8_comeTo_65 ?_
      first
        | exact ⟨rfl, rfl, by unfold zcome; rw [c_26, c_37]; rfl⟩
        | exact ⟨rfl, rfl, by unfold zcome; rw [c_26, c_37, if_neg (by decide), if_pos (by omega)]; rfl⟩
        | exact ⟨rfl, rfl, by unfold zcome; rw [c_26, c_37, if_neg (by decide), if_neg (by omega)]⟩
        | exact ⟨rfl, rfl, by unfold zcome; rw [c_26, if_neg (by cases fb <;> decide), if_pos (by omega)]; rfl⟩
        | exact ⟨rfl, rfl, by unfold zcome; rw [c_26, if_neg (by cases fb <;> decide), if_neg (by omega)]⟩
  · skip
    try simp (disch := omega) only [zk0, nI_leI, nI_ltI, nI_eq, zbk_notn, zbk_not, zbk_n0, zbk_0, zb_0, zb_n0, zb_not, zb_notn, Bool.not_eq_false, Bool.not_eq_true, Bool.not_eq_true', Bool.not_eq_false', decide_eq_true_eq, decide_eq_false_iff_not, Classical.not_not] at c_26
    refine z_aload_n X dX8_comeTo_29 rfl ?_
    refine z_ifnull X dX8_comeTo_30 ?_
    refine z_aload_n X dX8_comeTo_33 rfl ?_
    refine z_geti X fX8_167 (hF.1) rfl dX8_comeTo_34 ?_
    try simp (disch := omega) only [z_up_app, z_put_app, reduceIte, Nat.reduceEqDiff, hhc, hlg, if_neg (show ¬ (200 + m9 = 100 + o) by omega), if_neg (show ¬ (100 + o = 200 + m9) by omega), hfb]
    refine z_if_eq (tgt := 48) X dX8_comeTo_37 (by decide) (fun c_37 => ?_) (fun c_37 => ?_)
    · skip
      try simp (disch := omega) only [zk0, nI_leI, nI_ltI, nI_eq, zbk_notn, zbk_not, zbk_n0, zbk_0, zb_0, zb_n0, zb_not, zb_notn, Bool.not_eq_false, Bool.not_eq_true, Bool.not_eq_true', Bool.not_eq_false', decide_eq_true_eq, decide_eq_false_iff_not, Classical.not_not] at c_37
      refine z_aload_n X dX8_comeTo_48 rfl ?_
      refine z_geti X fX8_371 (hM.1) rfl dX8_comeTo_49 ?_
      try simp (disch := omega) only [z_up_app, z_put_app, reduceIte, Nat.reduceEqDiff, hhc, hlg, if_neg (show ¬ (200 + m9 = 100 + o) by omega), if_neg (show ¬ (100 + o = 200 + m9) by omega), hfb]
      refine z_aload_n X dX8_comeTo_52 rfl ?_
      refine z_getr2 X fX8_340 (hM.1) (hM.2.2.2.2.1) rfl dX8_comeTo_53 ?_
      refine z_alen X (t := 0) (by decide) (hM.2.2.2.2.2.2.2) dX8_comeTo_56 ?_
      refine z_icmp_lt (tgt := 65) X dX8_comeTo_57 (by decide) (fun c_57 => ?_) (fun c_57 => ?_)
      · skip
        try simp (disch := omega) only [zk0, nI_leI, nI_ltI, nI_eq, zbk_notn, zbk_not, zbk_n0, zbk_0, zb_0, zb_n0, zb_not, zb_notn, Bool.not_eq_false, Bool.not_eq_true, Bool.not_eq_true', Bool.not_eq_false', decide_eq_true_eq, decide_eq_false_iff_not, Classical.not_not] at c_57
        refine z_vret X (by decide) (by decide) rfl dX8_comeTo_65 ?_
        first
          | exact ⟨rfl, rfl, by unfold zcome; rw [c_26, c_37]; rfl⟩
          | exact ⟨rfl, rfl, by unfold zcome; rw [c_26, c_37, if_neg (by decide), if_pos (by omega)]; rfl⟩
          | exact ⟨rfl, rfl, by unfold zcome; rw [c_26, c_37, if_neg (by decide), if_neg (by omega)]⟩
          | exact ⟨rfl, rfl, by unfold zcome; rw [c_26, if_neg (by cases fb <;> decide), if_pos (by omega)]; rfl⟩
          | exact ⟨rfl, rfl, by unfold zcome; rw [c_26, if_neg (by cases fb <;> decide), if_neg (by omega)]⟩
      · skip
        try simp (disch := omega) only [zk0, nI_leI, nI_ltI, nI_eq, zbk_notn, zbk_not, zbk_n0, zbk_0, zb_0, zb_n0, zb_not, zb_notn, Bool.not_eq_false, Bool.not_eq_true, Bool.not_eq_true', Bool.not_eq_false', decide_eq_true_eq, decide_eq_false_iff_not, Classical.not_not] at c_57
        refine z_aload_n X dX8_comeTo_60 rfl ?_
        refine z_iconst (v := nI 1) X (by decide) dX8_comeTo_61 ?_
        refine z_puti X fX8_238 (hM.1) rfl dX8_comeTo_62 ?_
        refine z_vret X (by decide) (by decide) rfl dX8_comeTo_65 ?_
        first
          | exact ⟨rfl, rfl, by unfold zcome; rw [c_26, c_37]; rfl⟩
          | exact ⟨rfl, rfl, by unfold zcome; rw [c_26, c_37, if_neg (by decide), if_pos (by omega)]; rfl⟩
          | exact ⟨rfl, rfl, by unfold zcome; rw [c_26, c_37, if_neg (by decide), if_neg (by omega)]⟩
          | exact ⟨rfl, rfl, by unfold zcome; rw [c_26, if_neg (by cases fb <;> decide), if_pos (by omega)]; rfl⟩
          | exact ⟨rfl, rfl, by unfold zcome; rw [c_26, if_neg (by cases fb <;> decide), if_neg (by omega)]⟩
    · skip
      try simp (disch := omega) only [zk0, nI_leI, nI_ltI, nI_eq, zbk_notn, zbk_not, zbk_n0, zbk_0, zb_0, zb_n0, zb_not, zb_notn, Bool.not_eq_false, Bool.not_eq_true, Bool.not_eq_true', Bool.not_eq_false', decide_eq_true_eq, decide_eq_false_iff_not, Classical.not_not] at c_37
      refine z_aload_n X dX8_comeTo_40 rfl ?_
      refine z_iconst (v := nI 2) X (by decide) dX8_comeTo_41 ?_
      refine z_puti X fX8_238 (hM.1) rfl dX8_comeTo_42 ?_
      refine z_goto (tgt := 65) X dX8_comeTo_45 (by decide) ?_
      refine z_vret X (by decide) (by decide) rfl dX8_comeTo_65 ?_
      first
        | exact ⟨rfl, rfl, by unfold zcome; rw [c_26, c_37]; rfl⟩
        | exact ⟨rfl, rfl, by unfold zcome; rw [c_26, c_37, if_neg (by decide), if_pos (by omega)]; rfl⟩
        | exact ⟨rfl, rfl, by unfold zcome; rw [c_26, c_37, if_neg (by decide), if_neg (by omega)]⟩
        | exact ⟨rfl, rfl, by unfold zcome; rw [c_26, if_neg (by cases fb <;> decide), if_pos (by omega)]; rfl⟩
        | exact ⟨rfl, rfl, by unfold zcome; rw [c_26, if_neg (by cases fb <;> decide), if_neg (by omega)]⟩
