/-! contracts: the book, the draft -/
set_option maxHeartbeats 4000000 in
set_option maxRecDepth 100000 in
theorem tX0_hasIdea {l : Launch} {D : va_G} {cy : Nat → ClassId} {z0 : zRg} {g : zSh} {σ : zIn} {ni : Nat} (i : Int32) (hS : zS g) (hi : σ 2 4 = nI ni) (hi2 : ni ≤ 30) : z_Ct l D cy z0 MX0_hasIdea [.ref (g.2.1 2), .int i] g σ (zI (zb (zin i ni)) g σ) := by
  refine z_ofM (by decide) (z_cr (z_ci z_c0)) (Nat.le_of_ble_eq_true rfl) ?_
  intro p e s m args below meth c X
  refine z_iload_n X dX0_hasIdea_0 rfl ?_
  refine z_iconst (v := nI 0) X (by decide) dX0_hasIdea_1 ?_
  refine z_aload_n X dX0_hasIdea_2 rfl ?_
  refine z_geti X fX0_24 (zso_2 hS) rfl dX0_hasIdea_3 ?_
  try simp (disch := omega) only [z_up_app, z_put_app, reduceIte, Nat.reduceEqDiff, hi]
  refine z_iconst (v := nI 1) X (by decide) dX0_hasIdea_6 ?_
  refine z_isub X dX0_hasIdea_7 ?_
  refine z_runS X kX0_34 (tOut i (by omega)) rfl rfl (Nat.le_of_ble_eq_true rfl) ⟨by decide, by decide⟩ ⟨by decide, by decide⟩ dX0_hasIdea_8 ?_
  rintro _ g1 s1 ⟨rfl, h8, h9⟩
  replace h8 := h8.symm
  subst h8
  replace h9 := h9.symm
  subst h9
  refine z_if_ne (tgt := 18) X dX0_hasIdea_11 (by decide) (fun c_11 => ?_) (fun c_11 => ?_)
  · skip
    try simp (disch := omega) only [zk0, nI_leI, nI_ltI, nI_eq, zbk_notn, zbk_not, zbk_n0, zbk_0, zb_0, zb_n0, zb_not, zb_notn, Bool.not_eq_false, Bool.not_eq_true, Bool.not_eq_true', Bool.not_eq_false', decide_eq_true_eq, decide_eq_false_iff_not, Classical.not_not] at c_11
    refine z_iconst (v := nI 0) X (by decide) dX0_hasIdea_18 ?_
    refine z_zret X (by decide) (by decide) rfl (by first | exact Or.inl rfl | exact Or.inr rfl | exact zb_01 _ | assumption) dX0_hasIdea_19 ?_
    first | (exact zI_e (by simp (disch := omega) only [*, nI_clamp, if_true, if_false, reduceIte, Bool.false_eq_true, Bool.not_true, Bool.not_false, Bool.true_and, Bool.and_true, Bool.false_and, Bool.and_false, zb, zk0, zk1]) rfl rfl) | (exfalso; omega)
  · skip
    try simp (disch := omega) only [zk0, nI_leI, nI_ltI, nI_eq, zbk_notn, zbk_not, zbk_n0, zbk_0, zb_0, zb_n0, zb_not, zb_notn, Bool.not_eq_false, Bool.not_eq_true, Bool.not_eq_true', Bool.not_eq_false', decide_eq_true_eq, decide_eq_false_iff_not, Classical.not_not] at c_11
    refine z_iconst (v := nI 1) X (by decide) dX0_hasIdea_14 ?_
    refine z_goto (tgt := 19) X dX0_hasIdea_15 (by decide) ?_
    refine z_zret X (by decide) (by decide) rfl (by first | exact Or.inl rfl | exact Or.inr rfl | exact zb_01 _ | assumption) dX0_hasIdea_19 ?_
    first | (exact zI_e (by simp (disch := omega) only [*, nI_clamp, if_true, if_false, reduceIte, Bool.false_eq_true, Bool.not_true, Bool.not_false, Bool.true_and, Bool.and_true, Bool.false_and, Bool.and_false, zb, zk0, zk1]) rfl rfl) | (exfalso; omega)

set_option maxHeartbeats 4000000 in
set_option maxRecDepth 100000 in
theorem tX0_hasIdeaOrNone {l : Launch} {D : va_G} {cy : Nat → ClassId} {z0 : zRg} {g : zSh} {σ : zIn} {ni : Nat} (i : Int32) (hS : zS g) (hi : σ 2 4 = nI ni) (hi2 : ni ≤ 30) : z_Ct l D cy z0 MX0_hasIdeaOrNone [.ref (g.2.1 2), .int i] g σ (zI (zb (decide (i = -1) || zin i ni)) g σ) := by
  refine z_ofM (by decide) (z_cr (z_ci z_c0)) (Nat.le_of_ble_eq_true rfl) ?_
  intro p e s m args below meth c X
  refine z_iload_n X dX0_hasIdeaOrNone_0 rfl ?_
  refine z_iconst (v := -1) X (by decide) dX0_hasIdeaOrNone_1 ?_
  refine z_icmp_eq (tgt := 13) X dX0_hasIdeaOrNone_2 (by decide) (fun c_2 => ?_) (fun c_2 => ?_)
  · skip
    try simp (disch := omega) only [zk0, nI_leI, nI_ltI, nI_eq, zbk_notn, zbk_not, zbk_n0, zbk_0, zb_0, zb_n0, zb_not, zb_notn, Bool.not_eq_false, Bool.not_eq_true, Bool.not_eq_true', Bool.not_eq_false', decide_eq_true_eq, decide_eq_false_iff_not, Classical.not_not] at c_2
    refine z_iconst (v := nI 1) X (by decide) dX0_hasIdeaOrNone_13 ?_
    refine z_goto (tgt := 18) X dX0_hasIdeaOrNone_14 (by decide) ?_
    refine z_zret X (by decide) (by decide) rfl (by first | exact Or.inl rfl | exact Or.inr rfl | exact zb_01 _ | assumption) dX0_hasIdeaOrNone_18 ?_
    exact zI_e (by simp_all [zb, zk0, zk1]) rfl rfl
  · skip
    try simp (disch := omega) only [zk0, nI_leI, nI_ltI, nI_eq, zbk_notn, zbk_not, zbk_n0, zbk_0, zb_0, zb_n0, zb_not, zb_notn, Bool.not_eq_false, Bool.not_eq_true, Bool.not_eq_true', Bool.not_eq_false', decide_eq_true_eq, decide_eq_false_iff_not, Classical.not_not] at c_2
    refine z_aload_n X dX0_hasIdeaOrNone_5 rfl ?_
    refine z_iload_n X dX0_hasIdeaOrNone_6 rfl ?_
    refine z_runV X kX0_38 (tX0_hasIdea i hS hi hi2) (zso_2 hS) rfl rfl (Nat.le_of_ble_eq_true rfl) ⟨by decide, by decide⟩ ⟨by decide, by decide⟩ dX0_hasIdeaOrNone_7 ?_
    rintro _ g1 s1 ⟨rfl, h8, h9⟩
    replace h8 := h8.symm
    subst h8
    replace h9 := h9.symm
    subst h9
    refine z_if_eq (tgt := 17) X dX0_hasIdeaOrNone_10 (by decide) (fun c_10 => ?_) (fun c_10 => ?_)
    · skip
      try simp (disch := omega) only [zk0, nI_leI, nI_ltI, nI_eq, zbk_notn, zbk_not, zbk_n0, zbk_0, zb_0, zb_n0, zb_not, zb_notn, Bool.not_eq_false, Bool.not_eq_true, Bool.not_eq_true', Bool.not_eq_false', decide_eq_true_eq, decide_eq_false_iff_not, Classical.not_not] at c_10
      refine z_iconst (v := nI 0) X (by decide) dX0_hasIdeaOrNone_17 ?_
      refine z_zret X (by decide) (by decide) rfl (by first | exact Or.inl rfl | exact Or.inr rfl | exact zb_01 _ | assumption) dX0_hasIdeaOrNone_18 ?_
      exact zI_e (by simp_all [zb, zk0, zk1]) rfl rfl
    · skip
      try simp (disch := omega) only [zk0, nI_leI, nI_ltI, nI_eq, zbk_notn, zbk_not, zbk_n0, zbk_0, zb_0, zb_n0, zb_not, zb_notn, Bool.not_eq_false, Bool.not_eq_true, Bool.not_eq_true', Bool.not_eq_false', decide_eq_true_eq, decide_eq_false_iff_not, Classical.not_not] at c_10
      refine z_iconst (v := nI 1) X (by decide) dX0_hasIdeaOrNone_13 ?_
      refine z_goto (tgt := 18) X dX0_hasIdeaOrNone_14 (by decide) ?_
      refine z_zret X (by decide) (by decide) rfl (by first | exact Or.inl rfl | exact Or.inr rfl | exact zb_01 _ | assumption) dX0_hasIdeaOrNone_18 ?_
      exact zI_e (by simp_all [zb, zk0, zk1]) rfl rfl

set_option maxHeartbeats 4000000 in
set_option maxRecDepth 100000 in
theorem tX0_lettersOf {l : Launch} {D : va_G} {cy : Nat → ClassId} {z0 : zRg} {g : zSh} {σ : zIn} {ni : Nat} (k : Nat) (hS : zS g) (hi : σ 2 4 = nI ni) (hi2 : ni ≤ 30) (hk : k < ni) : z_Ct l D cy z0 MX0_lettersOf [.ref (g.2.1 2), .int (nI k)] g σ (zI (σ 3 k) g σ) := by
  refine z_ofM (by decide) (z_cr (z_ci z_c0)) (Nat.le_of_ble_eq_true rfl) ?_
  intro p e s m args below meth c X
  refine z_aload_n X dX0_lettersOf_0 rfl ?_
  refine z_iload_n X dX0_lettersOf_1 rfl ?_
  refine z_runV X kX0_38 (tX0_hasIdea (nI k) hS hi hi2) (zso_2 hS) rfl rfl (Nat.le_of_ble_eq_true rfl) ⟨by decide, by decide⟩ ⟨by decide, by decide⟩ dX0_lettersOf_2 ?_
  rintro _ g1 s1 ⟨rfl, h8, h9⟩
  replace h8 := h8.symm
  subst h8
  replace h9 := h9.symm
  subst h9
  rw [zin_nI hk (by omega)]
  refine z_if_eq (tgt := 26) X dX0_lettersOf_5 (by decide) (fun c_5 => ?_) (fun c_5 => ?_)
  · exact absurd c_5 (by decide)
  · skip
    try simp (disch := omega) only [zk0, nI_leI, nI_ltI, nI_eq, zbk_notn, zbk_not, zbk_n0, zbk_0, zb_0, zb_n0, zb_not, zb_notn, Bool.not_eq_false, Bool.not_eq_true, Bool.not_eq_true', Bool.not_eq_false', decide_eq_true_eq, decide_eq_false_iff_not, Classical.not_not] at c_5
    refine z_iload_n X dX0_lettersOf_8 rfl ?_
    refine z_aload_n X dX0_lettersOf_9 rfl ?_
    refine z_getr2 X fX0_9 (zso_2 hS) (zsr_2_0 hS) rfl dX0_lettersOf_10 ?_
    refine z_alen X (t := 0) (by decide) (zsa_3 hS) dX0_lettersOf_13 ?_
    refine z_icmp_ge (tgt := 26) X dX0_lettersOf_14 (by decide) (fun c_14 => ?_) (fun c_14 => ?_)
    · skip
      try simp (disch := omega) only [zk0, nI_leI, nI_ltI, nI_eq, zbk_notn, zbk_not, zbk_n0, zbk_0, zb_0, zb_n0, zb_not, zb_notn, Bool.not_eq_false, Bool.not_eq_true, Bool.not_eq_true', Bool.not_eq_false', decide_eq_true_eq, decide_eq_false_iff_not, Classical.not_not] at c_14
      omega
    · skip
      try simp (disch := omega) only [zk0, nI_leI, nI_ltI, nI_eq, zbk_notn, zbk_not, zbk_n0, zbk_0, zb_0, zb_n0, zb_not, zb_notn, Bool.not_eq_false, Bool.not_eq_true, Bool.not_eq_true', Bool.not_eq_false', decide_eq_true_eq, decide_eq_false_iff_not, Classical.not_not] at c_14
      refine z_aload_n X dX0_lettersOf_17 rfl ?_
      refine z_getr2 X fX0_9 (zso_2 hS) (zsr_2_0 hS) rfl dX0_lettersOf_18 ?_
      refine z_iload_n X dX0_lettersOf_21 rfl ?_
      refine z_ialdN X (zsa_3 hS) (by omega) (by omega) dX0_lettersOf_22 ?_
      refine z_goto (tgt := 27) X dX0_lettersOf_23 (by decide) ?_
      refine z_iret X (by decide) (by decide) rfl dX0_lettersOf_27 ?_
      exact zI_e rfl rfl rfl

set_option maxHeartbeats 4000000 in
set_option maxRecDepth 100000 in
theorem tX0_hasEntry {l : Launch} {D : va_G} {cy : Nat → ClassId} {z0 : zRg} {g : zSh} {σ : zIn} {ne : Nat} (i : Int32) (hS : zS g) (he : σ 2 5 = nI ne) (he2 : ne ≤ 40) : z_Ct l D cy z0 MX0_hasEntry [.ref (g.2.1 2), .int i] g σ (zI (zb (zin i ne)) g σ) := by
  refine z_ofM (by decide) (z_cr (z_ci z_c0)) (Nat.le_of_ble_eq_true rfl) ?_
  intro p e s m args below meth c X
  refine z_iload_n X dX0_hasEntry_0 rfl ?_
  refine z_if_lt (tgt := 25) X dX0_hasEntry_1 (by decide) (fun c_1 => ?_) (fun c_1 => ?_)
  · skip
    try simp (disch := omega) only [zk0, nI_leI, nI_ltI, nI_eq, zbk_notn, zbk_not, zbk_n0, zbk_0, zb_0, zb_n0, zb_not, zb_notn, Bool.not_eq_false, Bool.not_eq_true, Bool.not_eq_true', Bool.not_eq_false', decide_eq_true_eq, decide_eq_false_iff_not, Classical.not_not] at c_1
    refine z_iconst (v := nI 0) X (by decide) dX0_hasEntry_25 ?_
    refine z_zret X (by decide) (by decide) rfl (by first | exact Or.inl rfl | exact Or.inr rfl | exact zb_01 _ | assumption) dX0_hasEntry_26 ?_
    first
      | exact zI_e (by rw [zin_neg c_1]; rfl) rfl rfl
      | exact zI_e (by rw [zin_ge (by omega) c_9]; rfl) rfl rfl
      | exact (zno he2 (by decide) c_9 c_18).elim
      | exact zI_e (by rw [zin_of (by omega) c_1 c_9]; rfl) rfl rfl
  · skip
    try simp (disch := omega) only [zk0, nI_leI, nI_ltI, nI_eq, zbk_notn, zbk_not, zbk_n0, zbk_0, zb_0, zb_n0, zb_not, zb_notn, Bool.not_eq_false, Bool.not_eq_true, Bool.not_eq_true', Bool.not_eq_false', decide_eq_true_eq, decide_eq_false_iff_not, Classical.not_not] at c_1
    refine z_iload_n X dX0_hasEntry_4 rfl ?_
    refine z_aload_n X dX0_hasEntry_5 rfl ?_
    refine z_geti X fX0_28 (zso_2 hS) rfl dX0_hasEntry_6 ?_
    try simp (disch := omega) only [z_up_app, z_put_app, reduceIte, Nat.reduceEqDiff, he]
    refine z_icmp_ge (tgt := 25) X dX0_hasEntry_9 (by decide) (fun c_9 => ?_) (fun c_9 => ?_)
    · skip
      try simp (disch := omega) only [zk0, nI_leI, nI_ltI, nI_eq, zbk_notn, zbk_not, zbk_n0, zbk_0, zb_0, zb_n0, zb_not, zb_notn, Bool.not_eq_false, Bool.not_eq_true, Bool.not_eq_true', Bool.not_eq_false', decide_eq_true_eq, decide_eq_false_iff_not, Classical.not_not] at c_9
      refine z_iconst (v := nI 0) X (by decide) dX0_hasEntry_25 ?_
      refine z_zret X (by decide) (by decide) rfl (by first | exact Or.inl rfl | exact Or.inr rfl | exact zb_01 _ | assumption) dX0_hasEntry_26 ?_
      first
        | exact zI_e (by rw [zin_neg c_1]; rfl) rfl rfl
        | exact zI_e (by rw [zin_ge (by omega) c_9]; rfl) rfl rfl
        | exact (zno he2 (by decide) c_9 c_18).elim
        | exact zI_e (by rw [zin_of (by omega) c_1 c_9]; rfl) rfl rfl
    · skip
      try simp (disch := omega) only [zk0, nI_leI, nI_ltI, nI_eq, zbk_notn, zbk_not, zbk_n0, zbk_0, zb_0, zb_n0, zb_not, zb_notn, Bool.not_eq_false, Bool.not_eq_true, Bool.not_eq_true', Bool.not_eq_false', decide_eq_true_eq, decide_eq_false_iff_not, Classical.not_not] at c_9
      refine z_iload_n X dX0_hasEntry_12 rfl ?_
      refine z_aload_n X dX0_hasEntry_13 rfl ?_
      refine z_getr2 X fX0_15 (zso_2 hS) (zsr_2_1 hS) rfl dX0_hasEntry_14 ?_
      refine z_alen X (t := 0) (by decide) (zsa_4 hS) dX0_hasEntry_17 ?_
      refine z_icmp_ge (tgt := 25) X dX0_hasEntry_18 (by decide) (fun c_18 => ?_) (fun c_18 => ?_)
      · skip
        try simp (disch := omega) only [zk0, nI_leI, nI_ltI, nI_eq, zbk_notn, zbk_not, zbk_n0, zbk_0, zb_0, zb_n0, zb_not, zb_notn, Bool.not_eq_false, Bool.not_eq_true, Bool.not_eq_true', Bool.not_eq_false', decide_eq_true_eq, decide_eq_false_iff_not, Classical.not_not] at c_18
        refine z_iconst (v := nI 0) X (by decide) dX0_hasEntry_25 ?_
        refine z_zret X (by decide) (by decide) rfl (by first | exact Or.inl rfl | exact Or.inr rfl | exact zb_01 _ | assumption) dX0_hasEntry_26 ?_
        first
          | exact zI_e (by rw [zin_neg c_1]; rfl) rfl rfl
          | exact zI_e (by rw [zin_ge (by omega) c_9]; rfl) rfl rfl
          | exact (zno he2 (by decide) c_9 c_18).elim
          | exact zI_e (by rw [zin_of (by omega) c_1 c_9]; rfl) rfl rfl
      · skip
        try simp (disch := omega) only [zk0, nI_leI, nI_ltI, nI_eq, zbk_notn, zbk_not, zbk_n0, zbk_0, zb_0, zb_n0, zb_not, zb_notn, Bool.not_eq_false, Bool.not_eq_true, Bool.not_eq_true', Bool.not_eq_false', decide_eq_true_eq, decide_eq_false_iff_not, Classical.not_not] at c_18
        refine z_iconst (v := nI 1) X (by decide) dX0_hasEntry_21 ?_
        refine z_goto (tgt := 26) X dX0_hasEntry_22 (by decide) ?_
        refine z_zret X (by decide) (by decide) rfl (by first | exact Or.inl rfl | exact Or.inr rfl | exact zb_01 _ | assumption) dX0_hasEntry_26 ?_
        first
          | exact zI_e (by rw [zin_neg c_1]; rfl) rfl rfl
          | exact zI_e (by rw [zin_ge (by omega) c_9]; rfl) rfl rfl
          | exact (zno he2 (by decide) c_9 c_18).elim
          | exact zI_e (by rw [zin_of (by omega) c_1 c_9]; rfl) rfl rfl

set_option maxHeartbeats 4000000 in
set_option maxRecDepth 100000 in
theorem tX0_codeOf {l : Launch} {D : va_G} {cy : Nat → ClassId} {z0 : zRg} {g : zSh} {σ : zIn} {ne : Nat} (k : Nat) (hS : zS g) (he : σ 2 5 = nI ne) (he2 : ne ≤ 40) (hk : k < ne) : z_Ct l D cy z0 MX0_codeOf [.ref (g.2.1 2), .int (nI k)] g σ (zI (σ 4 k) g σ) := by
  refine z_ofM (by decide) (z_cr (z_ci z_c0)) (Nat.le_of_ble_eq_true rfl) ?_
  intro p e s m args below meth c X
  refine z_aload_n X dX0_codeOf_0 rfl ?_
  refine z_iload_n X dX0_codeOf_1 rfl ?_
  refine z_runV X kX0_42 (tX0_hasEntry (nI k) hS he he2) (zso_2 hS) rfl rfl (Nat.le_of_ble_eq_true rfl) ⟨by decide, by decide⟩ ⟨by decide, by decide⟩ dX0_codeOf_2 ?_
  rintro _ g1 s1 ⟨rfl, h8, h9⟩
  replace h8 := h8.symm
  subst h8
  replace h9 := h9.symm
  subst h9
  rw [zin_nI hk (by omega)]
  refine z_if_eq (tgt := 17) X dX0_codeOf_5 (by decide) (fun c_5 => ?_) (fun c_5 => ?_)
  · exact absurd c_5 (by decide)
  · skip
    try simp (disch := omega) only [zk0, nI_leI, nI_ltI, nI_eq, zbk_notn, zbk_not, zbk_n0, zbk_0, zb_0, zb_n0, zb_not, zb_notn, Bool.not_eq_false, Bool.not_eq_true, Bool.not_eq_true', Bool.not_eq_false', decide_eq_true_eq, decide_eq_false_iff_not, Classical.not_not] at c_5
    refine z_aload_n X dX0_codeOf_8 rfl ?_
    refine z_getr2 X fX0_15 (zso_2 hS) (zsr_2_1 hS) rfl dX0_codeOf_9 ?_
    refine z_iload_n X dX0_codeOf_12 rfl ?_
    refine z_ialdN X (zsa_4 hS) (by omega) (by omega) dX0_codeOf_13 ?_
    refine z_goto (tgt := 18) X dX0_codeOf_14 (by decide) ?_
    refine z_iret X (by decide) (by decide) rfl dX0_codeOf_18 ?_
    exact zI_e rfl rfl rfl

set_option maxHeartbeats 4000000 in
set_option maxRecDepth 100000 in
theorem tX0_codeOfN {l : Launch} {D : va_G} {cy : Nat → ClassId} {z0 : zRg} {g : zSh} {σ : zIn} {ne : Nat} (hS : zS g) (he : σ 2 5 = nI ne) (he2 : ne ≤ 40) : z_Ct l D cy z0 MX0_codeOf [.ref (g.2.1 2), .int (-1)] g σ (zI (-1) g σ) := by
  refine z_ofM (by decide) (z_cr (z_ci z_c0)) (Nat.le_of_ble_eq_true rfl) ?_
  intro p e s m args below meth c X
  refine z_aload_n X dX0_codeOf_0 rfl ?_
  refine z_iload_n X dX0_codeOf_1 rfl ?_
  refine z_runV X kX0_42 (tX0_hasEntry (-1) hS he he2) (zso_2 hS) rfl rfl (Nat.le_of_ble_eq_true rfl) ⟨by decide, by decide⟩ ⟨by decide, by decide⟩ dX0_codeOf_2 ?_
  rintro _ g1 s1 ⟨rfl, h8, h9⟩
  replace h8 := h8.symm
  subst h8
  replace h9 := h9.symm
  subst h9
  rw [zin_m1]
  refine z_if_eq (tgt := 17) X dX0_codeOf_5 (by decide) (fun c_5 => ?_) (fun c_5 => ?_)
  · skip
    try simp (disch := omega) only [zk0, nI_leI, nI_ltI, nI_eq, zbk_notn, zbk_not, zbk_n0, zbk_0, zb_0, zb_n0, zb_not, zb_notn, Bool.not_eq_false, Bool.not_eq_true, Bool.not_eq_true', Bool.not_eq_false', decide_eq_true_eq, decide_eq_false_iff_not, Classical.not_not] at c_5
    refine z_iconst (v := -1) X (by decide) dX0_codeOf_17 ?_
    refine z_iret X (by decide) (by decide) rfl dX0_codeOf_18 ?_
    exact zI_e rfl rfl rfl
  · exact absurd rfl c_5

set_option maxHeartbeats 4000000 in
set_option maxRecDepth 100000 in
theorem tX0_ideaIn {l : Launch} {D : va_G} {cy : Nat → ClassId} {z0 : zRg} {g : zSh} {σ : zIn} {ne : Nat} (k q : Nat) (hS : zS g) (he : σ 2 5 = nI ne) (he2 : ne ≤ 40) (hk : k < ne) (hq : q ≤ 4) : z_Ct l D cy z0 MX0_ideaIn [.ref (g.2.1 2), .int (nI k), .int (nI q)] g σ (zI (if q < 4 then σ 5 (4 * k + q) else -1) g σ) := by
  refine z_ofM (by decide) (z_cr (z_ci (z_ci z_c0))) (Nat.le_of_ble_eq_true rfl) ?_
  intro p e s m args below meth c X
  refine z_iload_n X dX0_ideaIn_0 rfl ?_
  refine z_iconst (v := nI 4) X (by decide) dX0_ideaIn_1 ?_
  refine z_imulN X dX0_ideaIn_2 ?_
  refine z_iload_n X dX0_ideaIn_3 rfl ?_
  refine z_iaddN X dX0_ideaIn_4 ?_
  refine z_istore_n X dX0_ideaIn_5 (by decide) ?_
  refine z_aload_n X dX0_ideaIn_6 rfl ?_
  refine z_iload_n X dX0_ideaIn_7 rfl ?_
  refine z_runV X kX0_42 (tX0_hasEntry (nI k) hS he he2) (zso_2 hS) rfl rfl (Nat.le_of_ble_eq_true rfl) ⟨by decide, by decide⟩ ⟨by decide, by decide⟩ dX0_ideaIn_8 ?_
  rintro _ g1 s1 ⟨rfl, h8, h9⟩
  replace h8 := h8.symm
  subst h8
  replace h9 := h9.symm
  subst h9
  rw [zin_nI hk (by omega)]
  refine z_if_eq (tgt := 36) X dX0_ideaIn_11 (by decide) (fun c_11 => ?_) (fun c_11 => ?_)
  · exact absurd c_11 (by decide)
  · skip
    try simp (disch := omega) only [zk0, nI_leI, nI_ltI, nI_eq, zbk_notn, zbk_not, zbk_n0, zbk_0, zb_0, zb_n0, zb_not, zb_notn, Bool.not_eq_false, Bool.not_eq_true, Bool.not_eq_true', Bool.not_eq_false', decide_eq_true_eq, decide_eq_false_iff_not, Classical.not_not] at c_11
    refine z_iload_n X dX0_ideaIn_14 rfl ?_
    refine z_iconst (v := nI 0) X (by decide) dX0_ideaIn_15 ?_
    refine z_iconst (v := nI 3) X (by decide) dX0_ideaIn_16 ?_
    refine z_runS X kX0_34 (tOutc 3 (nI q) (by decide)) rfl rfl (Nat.le_of_ble_eq_true rfl) ⟨by decide, by decide⟩ ⟨by decide, by decide⟩ dX0_ideaIn_17 ?_
    rintro _ g1 s1 ⟨rfl, h8, h9⟩
    replace h8 := h8.symm
    subst h8
    replace h9 := h9.symm
    subst h9
    rw [show zin (nI q) (3 + 1) = decide (q < 4) by unfold zin; rw [nI_toInt (by omega)]; exact decide_eq_decide.mpr ⟨fun h => by omega, fun h => by omega⟩]
    refine z_if_ne (tgt := 36) X dX0_ideaIn_20 (by decide) (fun c_20 => ?_) (fun c_20 => ?_)
    · skip
      try simp (disch := omega) only [zk0, nI_leI, nI_ltI, nI_eq, zbk_notn, zbk_not, zbk_n0, zbk_0, zb_0, zb_n0, zb_not, zb_notn, Bool.not_eq_false, Bool.not_eq_true, Bool.not_eq_true', Bool.not_eq_false', decide_eq_true_eq, decide_eq_false_iff_not, Classical.not_not] at c_20
      refine z_iconst (v := nI 0) X (by decide) dX0_ideaIn_36 ?_
      refine z_istore X dX0_ideaIn_37 (by decide) ?_
      refine z_iload X dX0_ideaIn_39 rfl ?_
      refine z_if_eq (tgt := 53) X dX0_ideaIn_41 (by decide) (fun c_41 => ?_) (fun c_41 => ?_)
      · skip
        refine z_iconst (v := -1) X (by decide) dX0_ideaIn_53 ?_
        refine z_iret X (by decide) (by decide) rfl dX0_ideaIn_54 ?_
        first
          | (exfalso; omega)
          | exact zI_e (by rw [if_pos (by omega), Nat.mul_comm 4 k]) rfl rfl
          | exact zI_e (by rw [if_neg (by omega)]) rfl rfl
          | (exfalso; omega)
      · first | exact absurd c_41 (by decide) | exact absurd (by decide) c_41
    · skip
      try simp (disch := omega) only [zk0, nI_leI, nI_ltI, nI_eq, zbk_notn, zbk_not, zbk_n0, zbk_0, zb_0, zb_n0, zb_not, zb_notn, Bool.not_eq_false, Bool.not_eq_true, Bool.not_eq_true', Bool.not_eq_false', decide_eq_true_eq, decide_eq_false_iff_not, Classical.not_not] at c_20
      refine z_iload_n X dX0_ideaIn_23 rfl ?_
      refine z_aload_n X dX0_ideaIn_24 rfl ?_
      refine z_getr2 X fX0_18 (zso_2 hS) (zsr_2_2 hS) rfl dX0_ideaIn_25 ?_
      refine z_alen X (t := 0) (by decide) (zsa_5 hS) dX0_ideaIn_28 ?_
      refine z_icmp_ge (tgt := 36) X dX0_ideaIn_29 (by decide) (fun c_29 => ?_) (fun c_29 => ?_)
      · skip
        try simp (disch := omega) only [zk0, nI_leI, nI_ltI, nI_eq, zbk_notn, zbk_not, zbk_n0, zbk_0, zb_0, zb_n0, zb_not, zb_notn, Bool.not_eq_false, Bool.not_eq_true, Bool.not_eq_true', Bool.not_eq_false', decide_eq_true_eq, decide_eq_false_iff_not, Classical.not_not] at c_29
        refine z_iconst (v := nI 0) X (by decide) dX0_ideaIn_36 ?_
        refine z_istore X dX0_ideaIn_37 (by decide) ?_
        refine z_iload X dX0_ideaIn_39 rfl ?_
        refine z_if_eq (tgt := 53) X dX0_ideaIn_41 (by decide) (fun c_41 => ?_) (fun c_41 => ?_)
        · skip
          refine z_iconst (v := -1) X (by decide) dX0_ideaIn_53 ?_
          refine z_iret X (by decide) (by decide) rfl dX0_ideaIn_54 ?_
          first
            | (exfalso; omega)
            | exact zI_e (by rw [if_pos (by omega), Nat.mul_comm 4 k]) rfl rfl
            | exact zI_e (by rw [if_neg (by omega)]) rfl rfl
            | (exfalso; omega)
        · first | exact absurd c_41 (by decide) | exact absurd (by decide) c_41
      · skip
        try simp (disch := omega) only [zk0, nI_leI, nI_ltI, nI_eq, zbk_notn, zbk_not, zbk_n0, zbk_0, zb_0, zb_n0, zb_not, zb_notn, Bool.not_eq_false, Bool.not_eq_true, Bool.not_eq_true', Bool.not_eq_false', decide_eq_true_eq, decide_eq_false_iff_not, Classical.not_not] at c_29
        refine z_iconst (v := nI 1) X (by decide) dX0_ideaIn_32 ?_
        refine z_goto (tgt := 37) X dX0_ideaIn_33 (by decide) ?_
        refine z_istore X dX0_ideaIn_37 (by decide) ?_
        refine z_iload X dX0_ideaIn_39 rfl ?_
        refine z_if_eq (tgt := 53) X dX0_ideaIn_41 (by decide) (fun c_41 => ?_) (fun c_41 => ?_)
        · first | exact absurd c_41 (by decide) | exact absurd (by decide) c_41
        · skip
          refine z_aload_n X dX0_ideaIn_44 rfl ?_
          refine z_getr2 X fX0_18 (zso_2 hS) (zsr_2_2 hS) rfl dX0_ideaIn_45 ?_
          refine z_iload_n X dX0_ideaIn_48 rfl ?_
          refine z_ialdN X (zsa_5 hS) (by omega) (by omega) dX0_ideaIn_49 ?_
          refine z_goto (tgt := 54) X dX0_ideaIn_50 (by decide) ?_
          refine z_iret X (by decide) (by decide) rfl dX0_ideaIn_54 ?_
          first
            | (exfalso; omega)
            | exact zI_e (by rw [if_pos (by omega), Nat.mul_comm 4 k]) rfl rfl
            | exact zI_e (by rw [if_neg (by omega)]) rfl rfl
            | (exfalso; omega)

set_option maxHeartbeats 4000000 in
set_option maxRecDepth 100000 in
theorem tX0_phraseLength {l : Launch} {D : va_G} {cy : Nat → ClassId} {z0 : zRg} {g : zSh} {σ : zIn} {ne : Nat} (k : Nat) (hS : zS g) (he : σ 2 5 = nI ne) (he2 : ne ≤ 40) (hk : k < ne) : z_Ct l D cy z0 MX0_phraseLength [.ref (g.2.1 2), .int (nI k)] g σ (fun v g' σ' => ∃ q, v = some (.int (nI q)) ∧ g' = g ∧ σ' = σ ∧ zplen (σ 5) k q) := by
  refine z_ofM (by decide) (z_cr (z_ci z_c0)) (Nat.le_of_ble_eq_true rfl) ?_
  intro p e s m args below meth c X
  have loop_2 : ∀ (n : Nat) (q : Nat) (hq : q ≤ 4) (hj : ∀ j, j < q → σ 5 (4 * k + j) ≠ -1) (hn : 4 - q < n), z_V p l e (zRm MX0_phraseLength) s m args below meth c 3 D cy z0 0 0 (zQm MX0_phraseLength below D cy z0 (fun v g' σ' => ∃ q, v = some (.int (nI q)) ∧ g' = g ∧ σ' = σ ∧ zplen (σ 5) k q) args s) 2 [some (.ref (g.2.1 2)), some (.int (nI k)), some (.int (nI q))] [] g σ := by
    intro n
    induction n with
    | zero => intro q hq hj hn; exact absurd hn (Nat.not_lt_zero _)
    | succ n ih_2 =>
      intro q hq hj hn
      refine z_iload_n X dX0_phraseLength_2 rfl ?_
      refine z_iconst (v := nI 4) X (by decide) dX0_phraseLength_3 ?_
      refine z_icmp_ge (tgt := 23) X dX0_phraseLength_4 (by decide) (fun c_4 => ?_) (fun c_4 => ?_)
      · skip
        try simp (disch := omega) only [zk0, nI_leI, nI_ltI, nI_eq, zbk_notn, zbk_not, zbk_n0, zbk_0, zb_0, zb_n0, zb_not, zb_notn, Bool.not_eq_false, Bool.not_eq_true, Bool.not_eq_true', Bool.not_eq_false', decide_eq_true_eq, decide_eq_false_iff_not, Classical.not_not] at c_4
        refine z_iload_n X dX0_phraseLength_23 rfl ?_
        refine z_iret X (by decide) (by decide) rfl dX0_phraseLength_24 ?_
        exact ⟨q, rfl, rfl, rfl, hq, hj, fun h => by first | assumption | omega⟩
      · skip
        try simp (disch := omega) only [zk0, nI_leI, nI_ltI, nI_eq, zbk_notn, zbk_not, zbk_n0, zbk_0, zb_0, zb_n0, zb_not, zb_notn, Bool.not_eq_false, Bool.not_eq_true, Bool.not_eq_true', Bool.not_eq_false', decide_eq_true_eq, decide_eq_false_iff_not, Classical.not_not] at c_4
        refine z_aload_n X dX0_phraseLength_7 rfl ?_
        refine z_iload_n X dX0_phraseLength_8 rfl ?_
        refine z_iload_n X dX0_phraseLength_9 rfl ?_
        refine z_runV X kX0_45 (tX0_ideaIn k q hS he he2 hk (by omega)) (zso_2 hS) rfl rfl (Nat.le_of_ble_eq_true rfl) ⟨by decide, by decide⟩ ⟨by decide, by decide⟩ dX0_phraseLength_10 ?_
        rintro _ g1 s1 ⟨rfl, h8, h9⟩
        replace h8 := h8.symm
        subst h8
        replace h9 := h9.symm
        subst h9
        rw [if_pos (by omega)]
        refine z_iconst (v := -1) X (by decide) dX0_phraseLength_13 ?_
        refine z_icmp_eq (tgt := 23) X dX0_phraseLength_14 (by decide) (fun c_14 => ?_) (fun c_14 => ?_)
        · skip
          try simp (disch := omega) only [zk0, nI_leI, nI_ltI, nI_eq, zbk_notn, zbk_not, zbk_n0, zbk_0, zb_0, zb_n0, zb_not, zb_notn, Bool.not_eq_false, Bool.not_eq_true, Bool.not_eq_true', Bool.not_eq_false', decide_eq_true_eq, decide_eq_false_iff_not, Classical.not_not] at c_14
          refine z_iload_n X dX0_phraseLength_23 rfl ?_
          refine z_iret X (by decide) (by decide) rfl dX0_phraseLength_24 ?_
          exact ⟨q, rfl, rfl, rfl, hq, hj, fun h => by first | assumption | omega⟩
        · skip
          try simp (disch := omega) only [zk0, nI_leI, nI_ltI, nI_eq, zbk_notn, zbk_not, zbk_n0, zbk_0, zb_0, zb_n0, zb_not, zb_notn, Bool.not_eq_false, Bool.not_eq_true, Bool.not_eq_true', Bool.not_eq_false', decide_eq_true_eq, decide_eq_false_iff_not, Classical.not_not] at c_14
          refine z_inc1 X dX0_phraseLength_17 rfl (by decide) ?_
          refine z_goto (tgt := 2) X dX0_phraseLength_20 (by decide) ?_
          exact ih_2 (q + 1) (by omega) (fun j hj9 => by
            by_cases e : j = q
            · rw [e]; assumption
            · exact hj j (by omega)) (by omega)
  refine z_iconst (v := nI 0) X (by decide) dX0_phraseLength_0 ?_
  refine z_istore_n X dX0_phraseLength_1 (by decide) ?_
  exact loop_2 (4 - 0 + 1) 0 (by omega) (fun j hj => absurd hj (Nat.not_lt_zero _)) (by omega)

set_option maxHeartbeats 4000000 in
set_option maxRecDepth 100000 in
theorem tX0_hasPhrase {l : Launch} {D : va_G} {cy : Nat → ClassId} {z0 : zRg} {g : zSh} {σ : zIn} {ne : Nat} (a b c9 d : Int32) (hS : zS g) (he : σ 2 5 = nI ne) (he2 : ne ≤ 40) : z_Ct l D cy z0 MX0_hasPhrase [.ref (g.2.1 2), .int a, .int b, .int c9, .int d] g σ (fun v g' σ' => ∃ t : Bool, v = some (.int (zb t)) ∧ g' = g ∧ σ' = σ ∧ (t = true ↔ ∃ k, k < ne ∧ σ 5 (4 * k) = a ∧ σ 5 (4 * k + 1) = b ∧ σ 5 (4 * k + 2) = c9 ∧ σ 5 (4 * k + 3) = d)) := by
  refine z_ofM (by decide) (z_cr (z_ci (z_ci (z_ci (z_ci z_c0))))) (Nat.le_of_ble_eq_true rfl) ?_
  intro p e s m args below meth c X
  have loop_3 : ∀ (n : Nat) (k : Nat) (hk : k ≤ ne) (hj : ∀ j, j < k → ¬ (σ 5 (4 * j) = a ∧ σ 5 (4 * j + 1) = b ∧ σ 5 (4 * j + 2) = c9 ∧ σ 5 (4 * j + 3) = d)) (hn : ne - k < n), z_V p l e (zRm MX0_hasPhrase) s m args below meth c 6 D cy z0 0 0 (zQm MX0_hasPhrase below D cy z0 (fun v g' σ' => ∃ t : Bool, v = some (.int (zb t)) ∧ g' = g ∧ σ' = σ ∧ (t = true ↔ ∃ k, k < ne ∧ σ 5 (4 * k) = a ∧ σ 5 (4 * k + 1) = b ∧ σ 5 (4 * k + 2) = c9 ∧ σ 5 (4 * k + 3) = d)) args s) 3 [some (.ref (g.2.1 2)), some (.int a), some (.int b), some (.int c9), some (.int d), some (.int (nI k))] [] g σ := by
    intro n
    induction n with
    | zero => intro k hk hj hn; exact absurd hn (Nat.not_lt_zero _)
    | succ n ih_3 =>
      intro k hk hj hn
      refine z_iload X dX0_hasPhrase_3 rfl ?_
      refine z_aload_n X dX0_hasPhrase_5 rfl ?_
      refine z_geti X fX0_28 (zso_2 hS) rfl dX0_hasPhrase_6 ?_
      try simp (disch := omega) only [z_up_app, z_put_app, reduceIte, Nat.reduceEqDiff, he]
      refine z_icmp_ge (tgt := 65) X dX0_hasPhrase_9 (by decide) (fun c_9 => ?_) (fun c_9 => ?_)
      · skip
        try simp (disch := omega) only [zk0, nI_leI, nI_ltI, nI_eq, zbk_notn, zbk_not, zbk_n0, zbk_0, zb_0, zb_n0, zb_not, zb_notn, Bool.not_eq_false, Bool.not_eq_true, Bool.not_eq_true', Bool.not_eq_false', decide_eq_true_eq, decide_eq_false_iff_not, Classical.not_not] at c_9
        refine z_iconst (v := nI 0) X (by decide) dX0_hasPhrase_65 ?_
        refine z_zret X (by decide) (by decide) rfl (by first | exact Or.inl rfl | exact Or.inr rfl | exact zb_01 _ | assumption) dX0_hasPhrase_66 ?_
        first
          | exact ⟨true, rfl, rfl, rfl, by simp only [true_iff]; exact ⟨k, by omega, by assumption, by assumption, by assumption, by assumption⟩⟩
          | exact ⟨false, rfl, rfl, rfl, by simp only [Bool.false_eq_true, false_iff]; rintro ⟨j, h1, h2⟩; exact hj j (by omega) h2⟩
      · skip
        try simp (disch := omega) only [zk0, nI_leI, nI_ltI, nI_eq, zbk_notn, zbk_not, zbk_n0, zbk_0, zb_0, zb_n0, zb_not, zb_notn, Bool.not_eq_false, Bool.not_eq_true, Bool.not_eq_true', Bool.not_eq_false', decide_eq_true_eq, decide_eq_false_iff_not, Classical.not_not] at c_9
        refine z_aload_n X dX0_hasPhrase_12 rfl ?_
        refine z_iload X dX0_hasPhrase_13 rfl ?_
        refine z_iconst (v := nI 0) X (by decide) dX0_hasPhrase_15 ?_
        refine z_runV X kX0_45 (tX0_ideaIn k 0 hS he he2 (by omega) (by decide)) (zso_2 hS) rfl rfl (Nat.le_of_ble_eq_true rfl) ⟨by decide, by decide⟩ ⟨by decide, by decide⟩ dX0_hasPhrase_16 ?_
        rintro _ g1 s1 ⟨rfl, h8, h9⟩
        replace h8 := h8.symm
        subst h8
        replace h9 := h9.symm
        subst h9
        rw [if_pos (by decide)]
        refine z_iload_n X dX0_hasPhrase_19 rfl ?_
        refine z_icmp_ne (tgt := 59) X dX0_hasPhrase_20 (by decide) (fun c_20 => ?_) (fun c_20 => ?_)
        · skip
          try simp (disch := omega) only [zk0, nI_leI, nI_ltI, nI_eq, zbk_notn, zbk_not, zbk_n0, zbk_0, zb_0, zb_n0, zb_not, zb_notn, Bool.not_eq_false, Bool.not_eq_true, Bool.not_eq_true', Bool.not_eq_false', decide_eq_true_eq, decide_eq_false_iff_not, Classical.not_not] at c_20
          refine z_inc1 X dX0_hasPhrase_59 rfl (by decide) ?_
          refine z_goto (tgt := 3) X dX0_hasPhrase_62 (by decide) ?_
          exact ih_3 (k + 1) (by omega) (fun j hj9 => by
            by_cases e : j = k
            · rw [e]; rintro ⟨h1, h2, h3, h4⟩; first | exact absurd h1 (by assumption) | exact absurd h2 (by assumption) | exact absurd h3 (by assumption) | exact absurd h4 (by assumption)
            · exact hj j (by omega)) (by omega)
        · skip
          try simp (disch := omega) only [zk0, nI_leI, nI_ltI, nI_eq, zbk_notn, zbk_not, zbk_n0, zbk_0, zb_0, zb_n0, zb_not, zb_notn, Bool.not_eq_false, Bool.not_eq_true, Bool.not_eq_true', Bool.not_eq_false', decide_eq_true_eq, decide_eq_false_iff_not, Classical.not_not] at c_20
          refine z_aload_n X dX0_hasPhrase_23 rfl ?_
          refine z_iload X dX0_hasPhrase_24 rfl ?_
          refine z_iconst (v := nI 1) X (by decide) dX0_hasPhrase_26 ?_
          refine z_runV X kX0_45 (tX0_ideaIn k 1 hS he he2 (by omega) (by decide)) (zso_2 hS) rfl rfl (Nat.le_of_ble_eq_true rfl) ⟨by decide, by decide⟩ ⟨by decide, by decide⟩ dX0_hasPhrase_27 ?_
          rintro _ g1 s1 ⟨rfl, h8, h9⟩
          replace h8 := h8.symm
          subst h8
          replace h9 := h9.symm
          subst h9
          rw [if_pos (by decide)]
          refine z_iload_n X dX0_hasPhrase_30 rfl ?_
          refine z_icmp_ne (tgt := 59) X dX0_hasPhrase_31 (by decide) (fun c_31 => ?_) (fun c_31 => ?_)
          · skip
            try simp (disch := omega) only [zk0, nI_leI, nI_ltI, nI_eq, zbk_notn, zbk_not, zbk_n0, zbk_0, zb_0, zb_n0, zb_not, zb_notn, Bool.not_eq_false, Bool.not_eq_true, Bool.not_eq_true', Bool.not_eq_false', decide_eq_true_eq, decide_eq_false_iff_not, Classical.not_not] at c_31
            refine z_inc1 X dX0_hasPhrase_59 rfl (by decide) ?_
            refine z_goto (tgt := 3) X dX0_hasPhrase_62 (by decide) ?_
            exact ih_3 (k + 1) (by omega) (fun j hj9 => by
              by_cases e : j = k
              · rw [e]; rintro ⟨h1, h2, h3, h4⟩; first | exact absurd h1 (by assumption) | exact absurd h2 (by assumption) | exact absurd h3 (by assumption) | exact absurd h4 (by assumption)
              · exact hj j (by omega)) (by omega)
          · skip
            try simp (disch := omega) only [zk0, nI_leI, nI_ltI, nI_eq, zbk_notn, zbk_not, zbk_n0, zbk_0, zb_0, zb_n0, zb_not, zb_notn, Bool.not_eq_false, Bool.not_eq_true, Bool.not_eq_true', Bool.not_eq_false', decide_eq_true_eq, decide_eq_false_iff_not, Classical.not_not] at c_31
            refine z_aload_n X dX0_hasPhrase_34 rfl ?_
            refine z_iload X dX0_hasPhrase_35 rfl ?_
            refine z_iconst (v := nI 2) X (by decide) dX0_hasPhrase_37 ?_
            refine z_runV X kX0_45 (tX0_ideaIn k 2 hS he he2 (by omega) (by decide)) (zso_2 hS) rfl rfl (Nat.le_of_ble_eq_true rfl) ⟨by decide, by decide⟩ ⟨by decide, by decide⟩ dX0_hasPhrase_38 ?_
            rintro _ g1 s1 ⟨rfl, h8, h9⟩
            replace h8 := h8.symm
            subst h8
            replace h9 := h9.symm
            subst h9
            rw [if_pos (by decide)]
            refine z_iload_n X dX0_hasPhrase_41 rfl ?_
            refine z_icmp_ne (tgt := 59) X dX0_hasPhrase_42 (by decide) (fun c_42 => ?_) (fun c_42 => ?_)
            · skip
              try simp (disch := omega) only [zk0, nI_leI, nI_ltI, nI_eq, zbk_notn, zbk_not, zbk_n0, zbk_0, zb_0, zb_n0, zb_not, zb_notn, Bool.not_eq_false, Bool.not_eq_true, Bool.not_eq_true', Bool.not_eq_false', decide_eq_true_eq, decide_eq_false_iff_not, Classical.not_not] at c_42
              refine z_inc1 X dX0_hasPhrase_59 rfl (by decide) ?_
              refine z_goto (tgt := 3) X dX0_hasPhrase_62 (by decide) ?_
              exact ih_3 (k + 1) (by omega) (fun j hj9 => by
                by_cases e : j = k
                · rw [e]; rintro ⟨h1, h2, h3, h4⟩; first | exact absurd h1 (by assumption) | exact absurd h2 (by assumption) | exact absurd h3 (by assumption) | exact absurd h4 (by assumption)
                · exact hj j (by omega)) (by omega)
            · skip
              try simp (disch := omega) only [zk0, nI_leI, nI_ltI, nI_eq, zbk_notn, zbk_not, zbk_n0, zbk_0, zb_0, zb_n0, zb_not, zb_notn, Bool.not_eq_false, Bool.not_eq_true, Bool.not_eq_true', Bool.not_eq_false', decide_eq_true_eq, decide_eq_false_iff_not, Classical.not_not] at c_42
              refine z_aload_n X dX0_hasPhrase_45 rfl ?_
              refine z_iload X dX0_hasPhrase_46 rfl ?_
              refine z_iconst (v := nI 3) X (by decide) dX0_hasPhrase_48 ?_
              refine z_runV X kX0_45 (tX0_ideaIn k 3 hS he he2 (by omega) (by decide)) (zso_2 hS) rfl rfl (Nat.le_of_ble_eq_true rfl) ⟨by decide, by decide⟩ ⟨by decide, by decide⟩ dX0_hasPhrase_49 ?_
              rintro _ g1 s1 ⟨rfl, h8, h9⟩
              replace h8 := h8.symm
              subst h8
              replace h9 := h9.symm
              subst h9
              rw [if_pos (by decide)]
              refine z_iload X dX0_hasPhrase_52 rfl ?_
              refine z_icmp_ne (tgt := 59) X dX0_hasPhrase_54 (by decide) (fun c_54 => ?_) (fun c_54 => ?_)
              · skip
                try simp (disch := omega) only [zk0, nI_leI, nI_ltI, nI_eq, zbk_notn, zbk_not, zbk_n0, zbk_0, zb_0, zb_n0, zb_not, zb_notn, Bool.not_eq_false, Bool.not_eq_true, Bool.not_eq_true', Bool.not_eq_false', decide_eq_true_eq, decide_eq_false_iff_not, Classical.not_not] at c_54
                refine z_inc1 X dX0_hasPhrase_59 rfl (by decide) ?_
                refine z_goto (tgt := 3) X dX0_hasPhrase_62 (by decide) ?_
                exact ih_3 (k + 1) (by omega) (fun j hj9 => by
                  by_cases e : j = k
                  · rw [e]; rintro ⟨h1, h2, h3, h4⟩; first | exact absurd h1 (by assumption) | exact absurd h2 (by assumption) | exact absurd h3 (by assumption) | exact absurd h4 (by assumption)
                  · exact hj j (by omega)) (by omega)
              · skip
                try simp (disch := omega) only [zk0, nI_leI, nI_ltI, nI_eq, zbk_notn, zbk_not, zbk_n0, zbk_0, zb_0, zb_n0, zb_not, zb_notn, Bool.not_eq_false, Bool.not_eq_true, Bool.not_eq_true', Bool.not_eq_false', decide_eq_true_eq, decide_eq_false_iff_not, Classical.not_not] at c_54
                refine z_iconst (v := nI 1) X (by decide) dX0_hasPhrase_57 ?_
                refine z_zret X (by decide) (by decide) rfl (by first | exact Or.inl rfl | exact Or.inr rfl | exact zb_01 _ | assumption) dX0_hasPhrase_58 ?_
                first
                  | exact ⟨true, rfl, rfl, rfl, by simp only [true_iff]; exact ⟨k, by omega, by assumption, by assumption, by assumption, by assumption⟩⟩
                  | exact ⟨false, rfl, rfl, rfl, by simp only [Bool.false_eq_true, false_iff]; rintro ⟨j, h1, h2⟩; exact hj j (by omega) h2⟩
  refine z_iconst (v := nI 0) X (by decide) dX0_hasPhrase_0 ?_
  refine z_istore X dX0_hasPhrase_1 (by decide) ?_
  exact loop_3 (ne - 0 + 1) 0 (by omega) (fun j hj => absurd hj (Nat.not_lt_zero _)) (by omega)

set_option maxHeartbeats 4000000 in
set_option maxRecDepth 100000 in
theorem tX0_hasCodeNear {l : Launch} {D : va_G} {cy : Nat → ClassId} {z0 : zRg} {g : zSh} {σ : zIn} {ne : Nat} (w : Nat) (hS : zS g) (he : σ 2 5 = nI ne) (he2 : ne ≤ 40) (hC : ∀ k, k < ne → zwd (σ 4 k)) (hw : w < 11881376) : z_Ct l D cy z0 MX0_hasCodeNear [.ref (g.2.1 2), .int (nI w)] g σ (fun v g' σ' => ∃ t : Bool, v = some (.int (zb t)) ∧ g' = g ∧ σ' = σ ∧ (t = true ↔ ∃ k, k < ne ∧ zp (nI w) (σ 4 k) < 2)) := by
  refine z_ofM (by decide) (z_cr (z_ci z_c0)) (Nat.le_of_ble_eq_true rfl) ?_
  intro p e s m args below meth c X
  have loop_2 : ∀ (n : Nat) (k : Nat) (hk : k ≤ ne) (hj : ∀ j, j < k → ¬ zp (nI w) (σ 4 j) < 2) (hn : ne - k < n), z_V p l e (zRm MX0_hasCodeNear) s m args below meth c 3 D cy z0 0 0 (zQm MX0_hasCodeNear below D cy z0 (fun v g' σ' => ∃ t : Bool, v = some (.int (zb t)) ∧ g' = g ∧ σ' = σ ∧ (t = true ↔ ∃ k, k < ne ∧ zp (nI w) (σ 4 k) < 2)) args s) 2 [some (.ref (g.2.1 2)), some (.int (nI w)), some (.int (nI k))] [] g σ := by
    intro n
    induction n with
    | zero => intro k hk hj hn; exact absurd hn (Nat.not_lt_zero _)
    | succ n ih_2 =>
      intro k hk hj hn
      refine z_iload_n X dX0_hasCodeNear_2 rfl ?_
      refine z_aload_n X dX0_hasCodeNear_3 rfl ?_
      refine z_geti X fX0_28 (zso_2 hS) rfl dX0_hasCodeNear_4 ?_
      try simp (disch := omega) only [z_up_app, z_put_app, reduceIte, Nat.reduceEqDiff, he]
      refine z_icmp_ge (tgt := 31) X dX0_hasCodeNear_7 (by decide) (fun c_7 => ?_) (fun c_7 => ?_)
      · skip
        try simp (disch := omega) only [zk0, nI_leI, nI_ltI, nI_eq, zbk_notn, zbk_not, zbk_n0, zbk_0, zb_0, zb_n0, zb_not, zb_notn, Bool.not_eq_false, Bool.not_eq_true, Bool.not_eq_true', Bool.not_eq_false', decide_eq_true_eq, decide_eq_false_iff_not, Classical.not_not] at c_7
        refine z_iconst (v := nI 0) X (by decide) dX0_hasCodeNear_31 ?_
        refine z_zret X (by decide) (by decide) rfl (by first | exact Or.inl rfl | exact Or.inr rfl | exact zb_01 _ | assumption) dX0_hasCodeNear_32 ?_
        first
          | exact ⟨true, rfl, rfl, rfl, by simp only [true_iff]; exact ⟨k, by omega, by rw [hW2]; omega⟩⟩
          | exact ⟨false, rfl, rfl, rfl, by simp only [Bool.false_eq_true, false_iff]; rintro ⟨j, h1, h2⟩; exact hj j (by omega) h2⟩
      · skip
        try simp (disch := omega) only [zk0, nI_leI, nI_ltI, nI_eq, zbk_notn, zbk_not, zbk_n0, zbk_0, zb_0, zb_n0, zb_not, zb_notn, Bool.not_eq_false, Bool.not_eq_true, Bool.not_eq_true', Bool.not_eq_false', decide_eq_true_eq, decide_eq_false_iff_not, Classical.not_not] at c_7
        refine z_iload_n X dX0_hasCodeNear_10 rfl ?_
        refine z_aload_n X dX0_hasCodeNear_11 rfl ?_
        refine z_iload_n X dX0_hasCodeNear_12 rfl ?_
        refine z_runV X kX0_49 (tX0_codeOf k hS he he2 (by omega)) (zso_2 hS) rfl rfl (Nat.le_of_ble_eq_true rfl) ⟨by decide, by decide⟩ ⟨by decide, by decide⟩ dX0_hasCodeNear_13 ?_
        rintro _ g1 s1 ⟨rfl, h8, h9⟩
        replace h8 := h8.symm
        subst h8
        replace h9 := h9.symm
        subst h9
        obtain ⟨W, hW1, hW2⟩ := hC k (by omega)
        rw [hW2]
        refine z_runS X kX0_53 (tX8_partsOf w W (by omega) (by omega)) rfl rfl (Nat.le_of_ble_eq_true rfl) ⟨by decide, by decide⟩ ⟨by decide, by decide⟩ dX0_hasCodeNear_16 ?_
        rintro _ g1 s1 ⟨rfl, h8, h9⟩
        replace h8 := h8.symm
        subst h8
        replace h9 := h9.symm
        subst h9
        have hpl : zp (nI w) (nI W) ≤ 5 := zpk_le (nI w) (nI W) 5
        refine z_iconst (v := nI 2) X (by decide) dX0_hasCodeNear_19 ?_
        refine z_icmp_ge (tgt := 25) X dX0_hasCodeNear_20 (by decide) (fun c_20 => ?_) (fun c_20 => ?_)
        · skip
          try simp (disch := omega) only [zk0, nI_leI, nI_ltI, nI_eq, zbk_notn, zbk_not, zbk_n0, zbk_0, zb_0, zb_n0, zb_not, zb_notn, Bool.not_eq_false, Bool.not_eq_true, Bool.not_eq_true', Bool.not_eq_false', decide_eq_true_eq, decide_eq_false_iff_not, Classical.not_not] at c_20
          refine z_inc1 X dX0_hasCodeNear_25 rfl (by decide) ?_
          refine z_goto (tgt := 2) X dX0_hasCodeNear_28 (by decide) ?_
          exact ih_2 (k + 1) (by omega) (fun j hj9 => by
            by_cases e : j = k
            · rw [e, hW2]; omega
            · exact hj j (by omega)) (by omega)
        · skip
          try simp (disch := omega) only [zk0, nI_leI, nI_ltI, nI_eq, zbk_notn, zbk_not, zbk_n0, zbk_0, zb_0, zb_n0, zb_not, zb_notn, Bool.not_eq_false, Bool.not_eq_true, Bool.not_eq_true', Bool.not_eq_false', decide_eq_true_eq, decide_eq_false_iff_not, Classical.not_not] at c_20
          refine z_iconst (v := nI 1) X (by decide) dX0_hasCodeNear_23 ?_
          refine z_zret X (by decide) (by decide) rfl (by first | exact Or.inl rfl | exact Or.inr rfl | exact zb_01 _ | assumption) dX0_hasCodeNear_24 ?_
          first
            | exact ⟨true, rfl, rfl, rfl, by simp only [true_iff]; exact ⟨k, by omega, by rw [hW2]; omega⟩⟩
            | exact ⟨false, rfl, rfl, rfl, by simp only [Bool.false_eq_true, false_iff]; rintro ⟨j, h1, h2⟩; exact hj j (by omega) h2⟩
  refine z_iconst (v := nI 0) X (by decide) dX0_hasCodeNear_0 ?_
  refine z_istore_n X dX0_hasCodeNear_1 (by decide) ?_
  exact loop_2 (ne - 0 + 1) 0 (by omega) (fun j hj => absurd hj (Nat.not_lt_zero _)) (by omega)

set_option maxHeartbeats 4000000 in
set_option maxRecDepth 100000 in
theorem tX2_ideaAt {l : Launch} {D : va_G} {cy : Nat → ClassId} {z0 : zRg} {g : zSh} {σ : zIn} {nd : Nat} (k : Nat) (hS : zS g) (hd : σ 11 1 = nI nd) (hd2 : nd ≤ 24) (hk : k < nd) : z_Ct l D cy z0 MX2_ideaAt [.ref (g.2.1 11), .int (nI k)] g σ (zI (σ 12 k) g σ) := by
  refine z_ofM (by decide) (z_cr (z_ci z_c0)) (Nat.le_of_ble_eq_true rfl) ?_
  intro p e s m args below meth c X
  refine z_iload_n X dX2_ideaAt_0 rfl ?_
  refine z_iconst (v := nI 0) X (by decide) dX2_ideaAt_1 ?_
  refine z_aload_n X dX2_ideaAt_2 rfl ?_
  refine z_geti X fX2_15 (zso_11 hS) rfl dX2_ideaAt_3 ?_
  try simp (disch := omega) only [z_up_app, z_put_app, reduceIte, Nat.reduceEqDiff, hd]
  refine z_iconst (v := nI 1) X (by decide) dX2_ideaAt_6 ?_
  refine z_isub X dX2_ideaAt_7 ?_
  refine z_runS X kX2_19 (tOut (nI k) (by omega)) rfl rfl (Nat.le_of_ble_eq_true rfl) ⟨by decide, by decide⟩ ⟨by decide, by decide⟩ dX2_ideaAt_8 ?_
  rintro _ g1 s1 ⟨rfl, h8, h9⟩
  replace h8 := h8.symm
  subst h8
  replace h9 := h9.symm
  subst h9
  rw [zin_nI hk (by omega)]
  refine z_if_ne (tgt := 23) X dX2_ideaAt_11 (by decide) (fun c_11 => ?_) (fun c_11 => ?_)
  · exact absurd rfl c_11
  · skip
    try simp (disch := omega) only [zk0, nI_leI, nI_ltI, nI_eq, zbk_notn, zbk_not, zbk_n0, zbk_0, zb_0, zb_n0, zb_not, zb_notn, Bool.not_eq_false, Bool.not_eq_true, Bool.not_eq_true', Bool.not_eq_false', decide_eq_true_eq, decide_eq_false_iff_not, Classical.not_not] at c_11
    refine z_iload_n X dX2_ideaAt_14 rfl ?_
    refine z_aload_n X dX2_ideaAt_15 rfl ?_
    refine z_getr2 X fX2_9 (zso_11 hS) (zsr_11_0 hS) rfl dX2_ideaAt_16 ?_
    refine z_alen X (t := 0) (by decide) (zsa_12 hS) dX2_ideaAt_19 ?_
    refine z_icmp_lt (tgt := 27) X dX2_ideaAt_20 (by decide) (fun c_20 => ?_) (fun c_20 => ?_)
    · skip
      try simp (disch := omega) only [zk0, nI_leI, nI_ltI, nI_eq, zbk_notn, zbk_not, zbk_n0, zbk_0, zb_0, zb_n0, zb_not, zb_notn, Bool.not_eq_false, Bool.not_eq_true, Bool.not_eq_true', Bool.not_eq_false', decide_eq_true_eq, decide_eq_false_iff_not, Classical.not_not] at c_20
      refine z_aload_n X dX2_ideaAt_27 rfl ?_
      refine z_getr2 X fX2_9 (zso_11 hS) (zsr_11_0 hS) rfl dX2_ideaAt_28 ?_
      refine z_iload_n X dX2_ideaAt_31 rfl ?_
      refine z_ialdN X (zsa_12 hS) (by omega) (by omega) dX2_ideaAt_32 ?_
      refine z_iret X (by decide) (by decide) rfl dX2_ideaAt_33 ?_
      exact zI_e rfl rfl rfl
    · skip
      try simp (disch := omega) only [zk0, nI_leI, nI_ltI, nI_eq, zbk_notn, zbk_not, zbk_n0, zbk_0, zb_0, zb_n0, zb_not, zb_notn, Bool.not_eq_false, Bool.not_eq_true, Bool.not_eq_true', Bool.not_eq_false', decide_eq_true_eq, decide_eq_false_iff_not, Classical.not_not] at c_20
      omega

set_option maxHeartbeats 4000000 in
set_option maxRecDepth 100000 in
theorem tX0_standsAt {l : Launch} {D : va_G} {cy : Nat → ClassId} {z0 : zRg} {g : zSh} {σ : zIn} {ne nd : Nat} (k st len : Nat) (hS : zS g) (he : σ 2 5 = nI ne) (he2 : ne ≤ 40) (hd : σ 11 1 = nI nd) (hd2 : nd ≤ 24) (hk : k < ne) (hl : len ≤ 4) (hst : st + len ≤ nd) : z_Ct l D cy z0 MX0_standsAt [.ref (g.2.1 2), .int (nI k), .ref (g.2.1 11), .int (nI st), .int (nI len)] g σ (fun v g' σ' => ∃ t : Bool, v = some (.int (zb t)) ∧ g' = g ∧ σ' = σ ∧ (t = true ↔ zmt (σ 5) (σ 12) k st len)) := by
  refine z_ofM (by decide) (z_cr (z_ci (z_cr (z_ci (z_ci z_c0))))) (Nat.le_of_ble_eq_true rfl) ?_
  intro p e s m args below meth c X
  have loop_3 : ∀ (n : Nat) (q : Nat) (hq : q ≤ len) (hj : ∀ j, j < q → σ 5 (4 * k + j) = σ 12 (st + j)) (hn : len - q < n), z_V p l e (zRm MX0_standsAt) s m args below meth c 6 D cy z0 0 0 (zQm MX0_standsAt below D cy z0 (fun v g' σ' => ∃ t : Bool, v = some (.int (zb t)) ∧ g' = g ∧ σ' = σ ∧ (t = true ↔ zmt (σ 5) (σ 12) k st len)) args s) 3 [some (.ref (g.2.1 2)), some (.int (nI k)), some (.ref (g.2.1 11)), some (.int (nI st)), some (.int (nI len)), some (.int (nI q))] [] g σ := by
    intro n
    induction n with
    | zero => intro q hq hj hn; exact absurd hn (Nat.not_lt_zero _)
    | succ n ih_3 =>
      intro q hq hj hn
      refine z_iload X dX0_standsAt_3 rfl ?_
      refine z_iload X dX0_standsAt_5 rfl ?_
      refine z_icmp_ge (tgt := 36) X dX0_standsAt_7 (by decide) (fun c_7 => ?_) (fun c_7 => ?_)
      · skip
        try simp (disch := omega) only [zk0, nI_leI, nI_ltI, nI_eq, zbk_notn, zbk_not, zbk_n0, zbk_0, zb_0, zb_n0, zb_not, zb_notn, Bool.not_eq_false, Bool.not_eq_true, Bool.not_eq_true', Bool.not_eq_false', decide_eq_true_eq, decide_eq_false_iff_not, Classical.not_not] at c_7
        refine z_aload_n X dX0_standsAt_36 rfl ?_
        refine z_iload_n X dX0_standsAt_37 rfl ?_
        refine z_iload X dX0_standsAt_38 rfl ?_
        refine z_runV X kX0_45 (tX0_ideaIn k len hS he he2 hk hl) (zso_2 hS) rfl rfl (Nat.le_of_ble_eq_true rfl) ⟨by decide, by decide⟩ ⟨by decide, by decide⟩ dX0_standsAt_40 ?_
        rintro _ g1 s1 ⟨rfl, h8, h9⟩
        replace h8 := h8.symm
        subst h8
        replace h9 := h9.symm
        subst h9
        refine z_iconst (v := -1) X (by decide) dX0_standsAt_43 ?_
        refine z_icmp_ne (tgt := 51) X dX0_standsAt_44 (by decide) (fun c_44 => ?_) (fun c_44 => ?_)
        · skip
          refine z_iconst (v := nI 0) X (by decide) dX0_standsAt_51 ?_
          refine z_zret X (by decide) (by decide) rfl (by first | exact Or.inl rfl | exact Or.inr rfl | exact zb_01 _ | assumption) dX0_standsAt_52 ?_
          first
            | exact ⟨true, rfl, rfl, rfl, by simp only [true_iff]; exact ⟨fun j hj9 => hj j (by omega), fun h => by rw [if_pos h] at c_44; exact Classical.not_not.mp c_44⟩⟩
            | exact ⟨false, rfl, rfl, rfl, by simp only [Bool.false_eq_true, false_iff]; rintro ⟨h1, h2⟩; first | exact absurd (h1 q (by omega)) (by assumption) | (exact c_44 (by split; exact h2 (by assumption); rfl))⟩
            | exact ⟨true, rfl, rfl, rfl, by simp only [true_iff]; exact ⟨fun j hj9 => hj j (by omega), fun h => by rw [if_pos h] at c_44; exact c_44⟩⟩
        · skip
          refine z_iconst (v := nI 1) X (by decide) dX0_standsAt_47 ?_
          refine z_goto (tgt := 52) X dX0_standsAt_48 (by decide) ?_
          refine z_zret X (by decide) (by decide) rfl (by first | exact Or.inl rfl | exact Or.inr rfl | exact zb_01 _ | assumption) dX0_standsAt_52 ?_
          first
            | exact ⟨true, rfl, rfl, rfl, by simp only [true_iff]; exact ⟨fun j hj9 => hj j (by omega), fun h => by rw [if_pos h] at c_44; exact Classical.not_not.mp c_44⟩⟩
            | exact ⟨false, rfl, rfl, rfl, by simp only [Bool.false_eq_true, false_iff]; rintro ⟨h1, h2⟩; first | exact absurd (h1 q (by omega)) (by assumption) | (exact c_44 (by split; exact h2 (by assumption); rfl))⟩
            | exact ⟨true, rfl, rfl, rfl, by simp only [true_iff]; exact ⟨fun j hj9 => hj j (by omega), fun h => by rw [if_pos h] at c_44; exact c_44⟩⟩
      · skip
        try simp (disch := omega) only [zk0, nI_leI, nI_ltI, nI_eq, zbk_notn, zbk_not, zbk_n0, zbk_0, zb_0, zb_n0, zb_not, zb_notn, Bool.not_eq_false, Bool.not_eq_true, Bool.not_eq_true', Bool.not_eq_false', decide_eq_true_eq, decide_eq_false_iff_not, Classical.not_not] at c_7
        refine z_aload_n X dX0_standsAt_10 rfl ?_
        refine z_iload_n X dX0_standsAt_11 rfl ?_
        refine z_iload X dX0_standsAt_12 rfl ?_
        refine z_runV X kX0_45 (tX0_ideaIn k q hS he he2 hk (by omega)) (zso_2 hS) rfl rfl (Nat.le_of_ble_eq_true rfl) ⟨by decide, by decide⟩ ⟨by decide, by decide⟩ dX0_standsAt_14 ?_
        rintro _ g1 s1 ⟨rfl, h8, h9⟩
        replace h8 := h8.symm
        subst h8
        replace h9 := h9.symm
        subst h9
        rw [if_pos (by omega)]
        refine z_aload_n X dX0_standsAt_17 rfl ?_
        refine z_iload_n X dX0_standsAt_18 rfl ?_
        refine z_iload X dX0_standsAt_19 rfl ?_
        refine z_iaddN X dX0_standsAt_21 ?_
        refine z_runV X kX0_60 (tX2_ideaAt (st + q) hS hd hd2 (by omega)) (zso_11 hS) rfl rfl (Nat.le_of_ble_eq_true rfl) ⟨by decide, by decide⟩ ⟨by decide, by decide⟩ dX0_standsAt_22 ?_
        rintro _ g1 s1 ⟨rfl, h8, h9⟩
        replace h8 := h8.symm
        subst h8
        replace h9 := h9.symm
        subst h9
        refine z_icmp_eq (tgt := 30) X dX0_standsAt_25 (by decide) (fun c_25 => ?_) (fun c_25 => ?_)
        · skip
          try simp (disch := omega) only [zk0, nI_leI, nI_ltI, nI_eq, zbk_notn, zbk_not, zbk_n0, zbk_0, zb_0, zb_n0, zb_not, zb_notn, Bool.not_eq_false, Bool.not_eq_true, Bool.not_eq_true', Bool.not_eq_false', decide_eq_true_eq, decide_eq_false_iff_not, Classical.not_not] at c_25
          refine z_inc1 X dX0_standsAt_30 rfl (by decide) ?_
          refine z_goto (tgt := 3) X dX0_standsAt_33 (by decide) ?_
          exact ih_3 (q + 1) (by omega) (fun j hj9 => by
            by_cases e : j = q
            · rw [e]; assumption
            · exact hj j (by omega)) (by omega)
        · skip
          try simp (disch := omega) only [zk0, nI_leI, nI_ltI, nI_eq, zbk_notn, zbk_not, zbk_n0, zbk_0, zb_0, zb_n0, zb_not, zb_notn, Bool.not_eq_false, Bool.not_eq_true, Bool.not_eq_true', Bool.not_eq_false', decide_eq_true_eq, decide_eq_false_iff_not, Classical.not_not] at c_25
          refine z_iconst (v := nI 0) X (by decide) dX0_standsAt_28 ?_
          refine z_zret X (by decide) (by decide) rfl (by first | exact Or.inl rfl | exact Or.inr rfl | exact zb_01 _ | assumption) dX0_standsAt_29 ?_
          first
            | exact ⟨true, rfl, rfl, rfl, by simp only [true_iff]; exact ⟨fun j hj9 => hj j (by omega), fun h => by rw [if_pos h] at c_44; exact Classical.not_not.mp c_44⟩⟩
            | exact ⟨false, rfl, rfl, rfl, by simp only [Bool.false_eq_true, false_iff]; rintro ⟨h1, h2⟩; first | exact absurd (h1 q (by omega)) (by assumption) | (exact c_44 (by split; exact h2 (by assumption); rfl))⟩
            | exact ⟨true, rfl, rfl, rfl, by simp only [true_iff]; exact ⟨fun j hj9 => hj j (by omega), fun h => by rw [if_pos h] at c_44; exact c_44⟩⟩
  refine z_iconst (v := nI 0) X (by decide) dX0_standsAt_0 ?_
  refine z_istore X dX0_standsAt_1 (by decide) ?_
  exact loop_3 (len - 0 + 1) 0 (by omega) (fun j hj => absurd hj (Nat.not_lt_zero _)) (by omega)

set_option maxHeartbeats 4000000 in
set_option maxRecDepth 100000 in
theorem tX0_entryFor {l : Launch} {D : va_G} {cy : Nat → ClassId} {z0 : zRg} {g : zSh} {σ : zIn} {ne nd : Nat} (st len : Nat) (hS : zS g) (he : σ 2 5 = nI ne) (he2 : ne ≤ 40) (hd : σ 11 1 = nI nd) (hd2 : nd ≤ 24) (hl : len ≤ 4) (hst : st + len ≤ nd) : z_Ct l D cy z0 MX0_entryFor [.ref (g.2.1 2), .ref (g.2.1 11), .int (nI st), .int (nI len)] g σ (fun v g' σ' => ∃ r, v = some (.int r) ∧ g' = g ∧ σ' = σ ∧ zmtR (σ 5) (σ 12) ne st len r) := by
  refine z_ofM (by decide) (z_cr (z_cr (z_ci (z_ci z_c0)))) (Nat.le_of_ble_eq_true rfl) ?_
  intro p e s m args below meth c X
  have loop_3 : ∀ (n : Nat) (k : Nat) (hk : k ≤ ne) (hj : ∀ j, j < k → ¬ zmt (σ 5) (σ 12) j st len) (hn : ne - k < n), z_V p l e (zRm MX0_entryFor) s m args below meth c 5 D cy z0 0 0 (zQm MX0_entryFor below D cy z0 (fun v g' σ' => ∃ r, v = some (.int r) ∧ g' = g ∧ σ' = σ ∧ zmtR (σ 5) (σ 12) ne st len r) args s) 3 [some (.ref (g.2.1 2)), some (.ref (g.2.1 11)), some (.int (nI st)), some (.int (nI len)), some (.int (nI k))] [] g σ := by
    intro n
    induction n with
    | zero => intro k hk hj hn; exact absurd hn (Nat.not_lt_zero _)
    | succ n ih_3 =>
      intro k hk hj hn
      refine z_iload X dX0_entryFor_3 rfl ?_
      refine z_aload_n X dX0_entryFor_5 rfl ?_
      refine z_geti X fX0_28 (zso_2 hS) rfl dX0_entryFor_6 ?_
      try simp (disch := omega) only [z_up_app, z_put_app, reduceIte, Nat.reduceEqDiff, he]
      refine z_icmp_ge (tgt := 33) X dX0_entryFor_9 (by decide) (fun c_9 => ?_) (fun c_9 => ?_)
      · skip
        try simp (disch := omega) only [zk0, nI_leI, nI_ltI, nI_eq, zbk_notn, zbk_not, zbk_n0, zbk_0, zb_0, zb_n0, zb_not, zb_notn, Bool.not_eq_false, Bool.not_eq_true, Bool.not_eq_true', Bool.not_eq_false', decide_eq_true_eq, decide_eq_false_iff_not, Classical.not_not] at c_9
        refine z_iconst (v := -1) X (by decide) dX0_entryFor_33 ?_
        refine z_iret X (by decide) (by decide) rfl dX0_entryFor_34 ?_
        first
          | exact ⟨_, rfl, rfl, rfl, Or.inl ⟨k, by omega, rfl, ht.mp c_21, hj⟩⟩
          | exact ⟨_, rfl, rfl, rfl, Or.inr ⟨rfl, fun j h1 => hj j (by omega)⟩⟩
      · skip
        try simp (disch := omega) only [zk0, nI_leI, nI_ltI, nI_eq, zbk_notn, zbk_not, zbk_n0, zbk_0, zb_0, zb_n0, zb_not, zb_notn, Bool.not_eq_false, Bool.not_eq_true, Bool.not_eq_true', Bool.not_eq_false', decide_eq_true_eq, decide_eq_false_iff_not, Classical.not_not] at c_9
        refine z_aload_n X dX0_entryFor_12 rfl ?_
        refine z_iload X dX0_entryFor_13 rfl ?_
        refine z_aload_n X dX0_entryFor_15 rfl ?_
        refine z_iload_n X dX0_entryFor_16 rfl ?_
        refine z_iload_n X dX0_entryFor_17 rfl ?_
        refine z_runV X kX0_56 (tX0_standsAt k st len hS he he2 hd hd2 (by omega) hl hst) (zso_2 hS) rfl rfl (Nat.le_of_ble_eq_true rfl) ⟨by decide, by decide⟩ ⟨by decide, by decide⟩ dX0_entryFor_18 ?_
        rintro _ g1 s1 ⟨t, rfl, h8, h9, ht⟩
        replace h8 := h8.symm
        subst h8
        replace h9 := h9.symm
        subst h9
        refine z_if_eq (tgt := 27) X dX0_entryFor_21 (by decide) (fun c_21 => ?_) (fun c_21 => ?_)
        · skip
          try simp (disch := omega) only [zk0, nI_leI, nI_ltI, nI_eq, zbk_notn, zbk_not, zbk_n0, zbk_0, zb_0, zb_n0, zb_not, zb_notn, Bool.not_eq_false, Bool.not_eq_true, Bool.not_eq_true', Bool.not_eq_false', decide_eq_true_eq, decide_eq_false_iff_not, Classical.not_not] at c_21
          refine z_inc1 X dX0_entryFor_27 rfl (by decide) ?_
          refine z_goto (tgt := 3) X dX0_entryFor_30 (by decide) ?_
          exact ih_3 (k + 1) (by omega) (fun j hj9 => by
            by_cases e : j = k
            · rw [e, ← ht]; simp [c_21]
            · exact hj j (by omega)) (by omega)
        · skip
          try simp (disch := omega) only [zk0, nI_leI, nI_ltI, nI_eq, zbk_notn, zbk_not, zbk_n0, zbk_0, zb_0, zb_n0, zb_not, zb_notn, Bool.not_eq_false, Bool.not_eq_true, Bool.not_eq_true', Bool.not_eq_false', decide_eq_true_eq, decide_eq_false_iff_not, Classical.not_not] at c_21
          refine z_iload X dX0_entryFor_24 rfl ?_
          refine z_iret X (by decide) (by decide) rfl dX0_entryFor_26 ?_
          first
            | exact ⟨_, rfl, rfl, rfl, Or.inl ⟨k, by omega, rfl, ht.mp c_21, hj⟩⟩
            | exact ⟨_, rfl, rfl, rfl, Or.inr ⟨rfl, fun j h1 => hj j (by omega)⟩⟩
  refine z_iconst (v := nI 0) X (by decide) dX0_entryFor_0 ?_
  refine z_istore X dX0_entryFor_1 (by decide) ?_
  exact loop_3 (ne - 0 + 1) 0 (by omega) (fun j hj => absurd hj (Nat.not_lt_zero _)) (by omega)
