/-! contracts of the class's face: the book, offices, cables -/
def zx_idea (ni : Nat) (x : Int32) : Nat := if x < 1 ∨ 20 < x then 1 else if ni = 30 then 2 else 0
abbrev NX8_idea : zM := (yX8_idea, cX8_idea, 3, (some .int), 6, 1, 6, 140)
set_option maxHeartbeats 4000000 in
set_option maxRecDepth 100000 in
theorem tX8_idea {l : Launch} {D : va_G} {cy : Nat → ClassId} {z0 : zRg} {g : zSh} {σ : zIn} (hfl : l.stackTraces = false) {ni : Nat} (x : Int32) (hS : zS g) (hi : σ 2 4 = nI ni) (hi2 : ni ≤ 30) : z_Cx l D cy z0 NX8_idea [.ref (g.2.1 1), .int x] g σ (fun v g' σ' => zx_idea ni x = 0 ∧ v = some (.int (nI ni)) ∧ g' = g ∧ σ' = z_up (z_up σ 3 ni x) 2 4 (nI (ni + 1))) (fun E g' σ' => zXk ["java/lang/IllegalArgumentException", "java/lang/IllegalStateException"] (zx_idea ni x) E ∧ g' = g ∧ σ' = σ) := by
  refine z_ofX hfl (by decide) (z_cr (z_ci z_c0)) (Nat.le_of_ble_eq_true rfl) ?_
  intro p e s m args below meth c X Y
  refine z_iload_n X dX8_idea_0 rfl ?_
  refine z_iconst (v := 1) X (by decide) dX8_idea_1 ?_
  refine z_bipush (v := 20) X (by decide) dX8_idea_2 ?_
  refine z_runS X kX8_68 (tX8_isOutside _ _ _) rfl rfl (Nat.le_of_ble_eq_true rfl) ⟨by decide, by decide⟩ ⟨by decide, by decide⟩ dX8_idea_4 ?_
  rintro _ g1 s1 ⟨rfl, h8, h9⟩
  replace h8 := h8.symm
  subst h8
  replace h9 := h9.symm
  subst h9
  refine z_if_eq (tgt := 20) X dX8_idea_7 (by decide) (fun c_7 => ?_) (fun c_7 => ?_)
  · skip
    try simp (disch := omega) only [zb_notn, zb_not, zb_n0, zb_0, Bool.not_eq_false, Bool.not_eq_true, Bool.not_eq_true', Bool.not_eq_false', decide_eq_true_eq, decide_eq_false_iff_not, Classical.not_not] at c_7
    refine z_aload_n X dX8_idea_20 rfl ?_
    refine z_getr2 X fX8_10 (zso_1 hS) (zsr_1_0 hS) rfl dX8_idea_21 ?_
    refine z_iload_n X dX8_idea_24 rfl ?_
    rcases Nat.lt_or_ge ni 30 with hn30 | hn30
    · skip
      skip
      refine z_runV X kX8_79 (tX0_addIdea x hS hi hn30) (zso_2 hS) rfl rfl (Nat.le_of_ble_eq_true rfl) ⟨by decide, by decide⟩ ⟨by decide, by decide⟩ dX8_idea_25 ?_
      rintro _ g1 s1 ⟨rfl, h8, h9⟩
      replace h8 := h8.symm
      subst h8
      replace h9 := h9.symm
      subst h9
      refine z_istore_n X dX8_idea_28 (by decide) ?_
      refine z_iload_n X dX8_idea_29 rfl ?_
      refine z_iconst (v := -1) X (by decide) dX8_idea_30 ?_
      refine z_icmp_ne (tgt := 44) X dX8_idea_31 (by decide) (fun c_31 => ?_) (fun c_31 => ?_)
      · skip
        try simp (disch := omega) only [zb_notn, zb_not, zb_n0, zb_0, Bool.not_eq_false, Bool.not_eq_true, Bool.not_eq_true', Bool.not_eq_false', decide_eq_true_eq, decide_eq_false_iff_not, Classical.not_not] at c_31
        refine z_iload_n X dX8_idea_44 rfl ?_
        refine z_rx ?_
        refine z_iret X (by decide) (by decide) rfl dX8_idea_45 ?_
        exact ⟨by unfold zx_idea; rw [if_neg c_7, if_neg (by omega)], rfl, rfl, rfl⟩
      · exact absurd c_31 (nI_ne_m1 (by omega))
    · skip
      obtain rfl : ni = 30 := by omega
      refine z_runV X kX8_79 (tX0_addIdeaF x hS hi) (zso_2 hS) rfl rfl (Nat.le_of_ble_eq_true rfl) ⟨by decide, by decide⟩ ⟨by decide, by decide⟩ dX8_idea_25 ?_
      rintro _ g1 s1 ⟨rfl, h8, h9⟩
      replace h8 := h8.symm
      subst h8
      replace h9 := h9.symm
      subst h9
      refine z_istore_n X dX8_idea_28 (by decide) ?_
      refine z_iload_n X dX8_idea_29 rfl ?_
      refine z_iconst (v := -1) X (by decide) dX8_idea_30 ?_
      refine z_icmp_ne (tgt := 44) X dX8_idea_31 (by decide) (fun c_31 => ?_) (fun c_31 => ?_)
      · exact absurd rfl c_31
      · skip
        try simp (disch := omega) only [zb_notn, zb_not, zb_n0, zb_0, Bool.not_eq_false, Bool.not_eq_true, Bool.not_eq_true', Bool.not_eq_false', decide_eq_true_eq, decide_eq_false_iff_not, Classical.not_not] at c_31
        refine z_throw X Y (cls := "java/lang/IllegalStateException") (text := "there are 30 ideas") (names := zENs) (by decide +kernel) (by decide +kernel) (z_gd 559 (by decide +kernel) (by decide +kernel)) (z_gd 39 (by decide +kernel) (by decide +kernel)) (List.mem_of_getElem? (i := 540) (by decide +kernel)) zat_IllegalStateException dX8_idea_34 dX8_idea_37 dX8_idea_38 dX8_idea_40 dX8_idea_43 (by decide) (by decide) (Nat.le_of_ble_eq_true rfl) (Nat.le_of_ble_eq_true rfl) (Nat.le_of_ble_eq_true rfl) (Nat.le_of_ble_eq_true rfl) ?_
        exact ⟨⟨1, by unfold zx_idea; simp_all, rfl⟩, rfl, rfl⟩
  · skip
    try simp (disch := omega) only [zb_notn, zb_not, zb_n0, zb_0, Bool.not_eq_false, Bool.not_eq_true, Bool.not_eq_true', Bool.not_eq_false', decide_eq_true_eq, decide_eq_false_iff_not, Classical.not_not] at c_7
    refine z_throw X Y (cls := "java/lang/IllegalArgumentException") (text := "letters is out of range") (names := zENs) (by decide +kernel) (by decide +kernel) (z_gd 321 (by decide +kernel) (by decide +kernel)) (z_gd 38 (by decide +kernel) (by decide +kernel)) (List.mem_of_getElem? (i := 526) (by decide +kernel)) zat_IllegalArgumentException dX8_idea_10 dX8_idea_13 dX8_idea_14 dX8_idea_16 dX8_idea_19 (by decide) (by decide) (Nat.le_of_ble_eq_true rfl) (Nat.le_of_ble_eq_true rfl) (Nat.le_of_ble_eq_true rfl) (Nat.le_of_ble_eq_true rfl) ?_
    exact ⟨⟨0, by unfold zx_idea; simp_all, rfl⟩, rfl, rfl⟩

theorem zwd_of {w : Int32} (h : ¬ (w < 0 ∨ 11881375 < w)) : ∃ W, W < 11881376 ∧ w = nI W := by
  have h1 : ¬ w < 0 := fun q => h (Or.inl q)
  have h2 : ¬ (11881375 : Int32) < w := fun q => h (Or.inr q)
  obtain ⟨j, hj, rfl⟩ := nI_of h1
  refine ⟨j, ?_, rfl⟩
  rw [Int32.lt_iff_toInt_lt, nI_toInt hj] at h2
  have : (11881375 : Int32).toInt = 11881375 := by decide
  omega
def zino (x : Int32) (n : Nat) : Bool := decide (x = -1) || zin x n
def zsame (σ : zIn) (ne : Nat) (a b c d : Int32) : Prop := ∃ k, k < ne ∧ σ 5 (4 * k) = a ∧ σ 5 (4 * k + 1) = b ∧ σ 5 (4 * k + 2) = c ∧ σ 5 (4 * k + 3) = d
def znear (σ : zIn) (ne : Nat) (w : Int32) : Prop := ∃ k, k < ne ∧ zp w (σ 4 k) < 2
/-- if, of any proposition -/
noncomputable def zif (P : Prop) (a b : Nat) : Nat := @ite Nat P (Classical.propDecidable P) a b
theorem zif_t {P : Prop} {a b : Nat} (h : P) : zif P a b = a := by unfold zif; rw [if_pos h]
theorem zif_f {P : Prop} {a b : Nat} (h : ¬ P) : zif P a b = b := by unfold zif; rw [if_neg h]
noncomputable def zx_entry (σ : zIn) (ni ne : Nat) (w a b c d : Int32) : Nat := if ¬ (zin a ni = true ∧ zino b ni = true ∧ zino c ni = true ∧ zino d ni = true) then 1 else if (w < 0 ∨ 11881375 < w) ∨ (b = -1 ∧ c ≠ -1) ∨ (c = -1 ∧ d ≠ -1) then 2 else zif (zsame σ ne a b c d ∨ znear σ ne w ∨ ne = 40) 3 0
abbrev NX8_entry : zM := (yX8_entry, cX8_entry, 7, (some .int), 6, 1, 6, 140)
set_option maxHeartbeats 4000000 in
set_option maxRecDepth 100000 in
theorem tX8_entry {l : Launch} {D : va_G} {cy : Nat → ClassId} {z0 : zRg} {g : zSh} {σ : zIn} (hfl : l.stackTraces = false) {ni ne : Nat} (w a b c9 d : Int32) (hS : zS g) (hi : σ 2 4 = nI ni) (hi2 : ni ≤ 30) (he : σ 2 5 = nI ne) (he2 : ne ≤ 40) (hC : ∀ k, k < ne → zwd (σ 4 k)) : z_Cx l D cy z0 NX8_entry [.ref (g.2.1 1), .int w, .int a, .int b, .int c9, .int d] g σ (fun v g' σ' => zx_entry σ ni ne w a b c9 d = 0 ∧ v = some (.int (nI ne)) ∧ g' = g ∧ σ' = z_up (z_up (z_up (z_up (z_up (z_up σ 4 ne w) 5 (ne * 4) a) 5 (ne * 4 + 1) b) 5 (ne * 4 + 2) c9) 5 (ne * 4 + 3) d) 2 5 (nI (ne + 1))) (fun E g' σ' => zXk ["java/lang/IndexOutOfBoundsException", "java/lang/IllegalArgumentException", "java/lang/IllegalStateException"] (zx_entry σ ni ne w a b c9 d) E ∧ g' = g ∧ σ' = σ) := by
  refine z_ofX hfl (by decide) (z_cr (z_ci (z_ci (z_ci (z_ci (z_ci z_c0)))))) (Nat.le_of_ble_eq_true rfl) ?_
  intro p e s m args below meth c X Y
  refine z_aload_n X dX8_entry_0 rfl ?_
  refine z_getr2 X fX8_10 (zso_1 hS) (zsr_1_0 hS) rfl dX8_entry_1 ?_
  refine z_iload_n X dX8_entry_4 rfl ?_
  refine z_runV X kX8_88 (tX0_hasIdea _ hS hi hi2) (zso_2 hS) rfl rfl (Nat.le_of_ble_eq_true rfl) ⟨by decide, by decide⟩ ⟨by decide, by decide⟩ dX8_entry_5 ?_
  rintro _ g1 s1 ⟨rfl, h8, h9⟩
  replace h8 := h8.symm
  subst h8
  replace h9 := h9.symm
  subst h9
  refine z_if_eq (tgt := 46) X dX8_entry_8 (by decide) (fun c_8 => ?_) (fun c_8 => ?_)
  · skip
    try simp (disch := omega) only [zb_notn, zb_not, zb_n0, zb_0, Bool.not_eq_false, Bool.not_eq_true, Bool.not_eq_true', Bool.not_eq_false', decide_eq_true_eq, decide_eq_false_iff_not, Classical.not_not] at c_8
    refine z_throw X Y (cls := "java/lang/IndexOutOfBoundsException") (text := "no such idea") (names := zENs) (by decide +kernel) (by decide +kernel) (z_gd 248 (by decide +kernel) (by decide +kernel)) (z_gd 40 (by decide +kernel) (by decide +kernel)) (List.mem_of_getElem? (i := 556) (by decide +kernel)) zat_IndexOutOfBoundsException dX8_entry_46 dX8_entry_49 dX8_entry_50 dX8_entry_52 dX8_entry_55 (by decide) (by decide) (Nat.le_of_ble_eq_true rfl) (Nat.le_of_ble_eq_true rfl) (Nat.le_of_ble_eq_true rfl) (Nat.le_of_ble_eq_true rfl) ?_
    exact ⟨⟨0, by unfold zx_entry; simp_all [zino], rfl⟩, rfl, rfl⟩
  · skip
    try simp (disch := omega) only [zb_notn, zb_not, zb_n0, zb_0, Bool.not_eq_false, Bool.not_eq_true, Bool.not_eq_true', Bool.not_eq_false', decide_eq_true_eq, decide_eq_false_iff_not, Classical.not_not] at c_8
    refine z_aload_n X dX8_entry_11 rfl ?_
    refine z_getr2 X fX8_10 (zso_1 hS) (zsr_1_0 hS) rfl dX8_entry_12 ?_
    refine z_iload_n X dX8_entry_15 rfl ?_
    refine z_runV X kX8_92 (tX0_hasIdeaOrNone _ hS hi hi2) (zso_2 hS) rfl rfl (Nat.le_of_ble_eq_true rfl) ⟨by decide, by decide⟩ ⟨by decide, by decide⟩ dX8_entry_16 ?_
    rintro _ g1 s1 ⟨rfl, h8, h9⟩
    replace h8 := h8.symm
    subst h8
    replace h9 := h9.symm
    subst h9
    refine z_if_eq (tgt := 46) X dX8_entry_19 (by decide) (fun c_19 => ?_) (fun c_19 => ?_)
    · skip
      try simp (disch := omega) only [zb_notn, zb_not, zb_n0, zb_0, Bool.not_eq_false, Bool.not_eq_true, Bool.not_eq_true', Bool.not_eq_false', decide_eq_true_eq, decide_eq_false_iff_not, Classical.not_not] at c_19
      refine z_throw X Y (cls := "java/lang/IndexOutOfBoundsException") (text := "no such idea") (names := zENs) (by decide +kernel) (by decide +kernel) (z_gd 248 (by decide +kernel) (by decide +kernel)) (z_gd 40 (by decide +kernel) (by decide +kernel)) (List.mem_of_getElem? (i := 556) (by decide +kernel)) zat_IndexOutOfBoundsException dX8_entry_46 dX8_entry_49 dX8_entry_50 dX8_entry_52 dX8_entry_55 (by decide) (by decide) (Nat.le_of_ble_eq_true rfl) (Nat.le_of_ble_eq_true rfl) (Nat.le_of_ble_eq_true rfl) (Nat.le_of_ble_eq_true rfl) ?_
      exact ⟨⟨0, by unfold zx_entry; simp_all [zino], rfl⟩, rfl, rfl⟩
    · skip
      try simp (disch := omega) only [zb_notn, zb_not, zb_n0, zb_0, Bool.not_eq_false, Bool.not_eq_true, Bool.not_eq_true', Bool.not_eq_false', decide_eq_true_eq, decide_eq_false_iff_not, Classical.not_not] at c_19
      refine z_aload_n X dX8_entry_22 rfl ?_
      refine z_getr2 X fX8_10 (zso_1 hS) (zsr_1_0 hS) rfl dX8_entry_23 ?_
      refine z_iload X dX8_entry_26 rfl ?_
      refine z_runV X kX8_92 (tX0_hasIdeaOrNone _ hS hi hi2) (zso_2 hS) rfl rfl (Nat.le_of_ble_eq_true rfl) ⟨by decide, by decide⟩ ⟨by decide, by decide⟩ dX8_entry_28 ?_
      rintro _ g1 s1 ⟨rfl, h8, h9⟩
      replace h8 := h8.symm
      subst h8
      replace h9 := h9.symm
      subst h9
      refine z_if_eq (tgt := 46) X dX8_entry_31 (by decide) (fun c_31 => ?_) (fun c_31 => ?_)
      · skip
        try simp (disch := omega) only [zb_notn, zb_not, zb_n0, zb_0, Bool.not_eq_false, Bool.not_eq_true, Bool.not_eq_true', Bool.not_eq_false', decide_eq_true_eq, decide_eq_false_iff_not, Classical.not_not] at c_31
        refine z_throw X Y (cls := "java/lang/IndexOutOfBoundsException") (text := "no such idea") (names := zENs) (by decide +kernel) (by decide +kernel) (z_gd 248 (by decide +kernel) (by decide +kernel)) (z_gd 40 (by decide +kernel) (by decide +kernel)) (List.mem_of_getElem? (i := 556) (by decide +kernel)) zat_IndexOutOfBoundsException dX8_entry_46 dX8_entry_49 dX8_entry_50 dX8_entry_52 dX8_entry_55 (by decide) (by decide) (Nat.le_of_ble_eq_true rfl) (Nat.le_of_ble_eq_true rfl) (Nat.le_of_ble_eq_true rfl) (Nat.le_of_ble_eq_true rfl) ?_
        exact ⟨⟨0, by unfold zx_entry; simp_all [zino], rfl⟩, rfl, rfl⟩
      · skip
        try simp (disch := omega) only [zb_notn, zb_not, zb_n0, zb_0, Bool.not_eq_false, Bool.not_eq_true, Bool.not_eq_true', Bool.not_eq_false', decide_eq_true_eq, decide_eq_false_iff_not, Classical.not_not] at c_31
        refine z_aload_n X dX8_entry_34 rfl ?_
        refine z_getr2 X fX8_10 (zso_1 hS) (zsr_1_0 hS) rfl dX8_entry_35 ?_
        refine z_iload X dX8_entry_38 rfl ?_
        refine z_runV X kX8_92 (tX0_hasIdeaOrNone _ hS hi hi2) (zso_2 hS) rfl rfl (Nat.le_of_ble_eq_true rfl) ⟨by decide, by decide⟩ ⟨by decide, by decide⟩ dX8_entry_40 ?_
        rintro _ g1 s1 ⟨rfl, h8, h9⟩
        replace h8 := h8.symm
        subst h8
        replace h9 := h9.symm
        subst h9
        refine z_if_ne (tgt := 56) X dX8_entry_43 (by decide) (fun c_43 => ?_) (fun c_43 => ?_)
        · skip
          try simp (disch := omega) only [zb_notn, zb_not, zb_n0, zb_0, Bool.not_eq_false, Bool.not_eq_true, Bool.not_eq_true', Bool.not_eq_false', decide_eq_true_eq, decide_eq_false_iff_not, Classical.not_not] at c_43
          refine z_iload_n X dX8_entry_56 rfl ?_
          refine z_iconst (v := 0) X (by decide) dX8_entry_57 ?_
          refine z_ldc X qX8_100 dX8_entry_58 ?_
          refine z_runS X kX8_68 (tX8_isOutside _ _ _) rfl rfl (Nat.le_of_ble_eq_true rfl) ⟨by decide, by decide⟩ ⟨by decide, by decide⟩ dX8_entry_60 ?_
          rintro _ g1 s1 ⟨rfl, h8, h9⟩
          replace h8 := h8.symm
          subst h8
          replace h9 := h9.symm
          subst h9
          refine z_if_eq (tgt := 76) X dX8_entry_63 (by decide) (fun c_63 => ?_) (fun c_63 => ?_)
          · skip
            try simp (disch := omega) only [zb_notn, zb_not, zb_n0, zb_0, Bool.not_eq_false, Bool.not_eq_true, Bool.not_eq_true', Bool.not_eq_false', decide_eq_true_eq, decide_eq_false_iff_not, Classical.not_not] at c_63
            refine z_iload_n X dX8_entry_76 rfl ?_
            refine z_iconst (v := -1) X (by decide) dX8_entry_77 ?_
            refine z_icmp_ne (tgt := 87) X dX8_entry_78 (by decide) (fun c_78 => ?_) (fun c_78 => ?_)
            · skip
              try simp (disch := omega) only [zb_notn, zb_not, zb_n0, zb_0, Bool.not_eq_false, Bool.not_eq_true, Bool.not_eq_true', Bool.not_eq_false', decide_eq_true_eq, decide_eq_false_iff_not, Classical.not_not] at c_78
              refine z_iload X dX8_entry_87 rfl ?_
              refine z_iconst (v := -1) X (by decide) dX8_entry_89 ?_
              refine z_icmp_ne (tgt := 109) X dX8_entry_90 (by decide) (fun c_90 => ?_) (fun c_90 => ?_)
              · skip
                try simp (disch := omega) only [zb_notn, zb_not, zb_n0, zb_0, Bool.not_eq_false, Bool.not_eq_true, Bool.not_eq_true', Bool.not_eq_false', decide_eq_true_eq, decide_eq_false_iff_not, Classical.not_not] at c_90
                refine z_aload_n X dX8_entry_109 rfl ?_
                refine z_getr2 X fX8_10 (zso_1 hS) (zsr_1_0 hS) rfl dX8_entry_110 ?_
                refine z_iload_n X dX8_entry_113 rfl ?_
                refine z_iload_n X dX8_entry_114 rfl ?_
                refine z_iload X dX8_entry_115 rfl ?_
                refine z_iload X dX8_entry_117 rfl ?_
                refine z_runV X kX8_105 (tX0_hasPhrase _ _ _ _ hS he he2) (zso_2 hS) rfl rfl (Nat.le_of_ble_eq_true rfl) ⟨by decide, by decide⟩ ⟨by decide, by decide⟩ dX8_entry_119 ?_
                rintro _ g1 s1 ⟨t1, rfl, h8, h9, ht1⟩
                replace h8 := h8.symm
                subst h8
                replace h9 := h9.symm
                subst h9
                refine z_if_ne (tgt := 136) X dX8_entry_122 (by decide) (fun c_122 => ?_) (fun c_122 => ?_)
                · skip
                  try simp (disch := omega) only [zb_notn, zb_not, zb_n0, zb_0, Bool.not_eq_false, Bool.not_eq_true, Bool.not_eq_true', Bool.not_eq_false', decide_eq_true_eq, decide_eq_false_iff_not, Classical.not_not] at c_122
                  refine z_throw X Y (cls := "java/lang/IllegalStateException") (text := "the phrase is there, or a code word too near") (names := zENs) (by decide +kernel) (by decide +kernel) (z_gd 559 (by decide +kernel) (by decide +kernel)) (z_gd 39 (by decide +kernel) (by decide +kernel)) (List.mem_of_getElem? (i := 568) (by decide +kernel)) zat_IllegalStateException dX8_entry_136 dX8_entry_139 dX8_entry_140 dX8_entry_142 dX8_entry_145 (by decide) (by decide) (Nat.le_of_ble_eq_true rfl) (Nat.le_of_ble_eq_true rfl) (Nat.le_of_ble_eq_true rfl) (Nat.le_of_ble_eq_true rfl) ?_
                  exact ⟨⟨2, by unfold zx_entry; rw [if_neg (by simp_all [zino]), if_neg (by simp_all), zif_t (by first | exact Or.inl (ht1.mp (by assumption)) | exact Or.inr (Or.inl (ht2.mp (by assumption))))], rfl⟩, rfl, rfl⟩
                · skip
                  try simp (disch := omega) only [zb_notn, zb_not, zb_n0, zb_0, Bool.not_eq_false, Bool.not_eq_true, Bool.not_eq_true', Bool.not_eq_false', decide_eq_true_eq, decide_eq_false_iff_not, Classical.not_not] at c_122
                  refine z_aload_n X dX8_entry_125 rfl ?_
                  refine z_getr2 X fX8_10 (zso_1 hS) (zsr_1_0 hS) rfl dX8_entry_126 ?_
                  refine z_iload_n X dX8_entry_129 rfl ?_
                  obtain ⟨W, hW, rfl⟩ := zwd_of c_63
                  refine z_runV X kX8_109 (tX0_hasCodeNear W hS he he2 hC hW) (zso_2 hS) rfl rfl (Nat.le_of_ble_eq_true rfl) ⟨by decide, by decide⟩ ⟨by decide, by decide⟩ dX8_entry_130 ?_
                  rintro _ g1 s1 ⟨t2, rfl, h8, h9, ht2⟩
                  replace h8 := h8.symm
                  subst h8
                  replace h9 := h9.symm
                  subst h9
                  refine z_if_eq (tgt := 146) X dX8_entry_133 (by decide) (fun c_133 => ?_) (fun c_133 => ?_)
                  · skip
                    try simp (disch := omega) only [zb_notn, zb_not, zb_n0, zb_0, Bool.not_eq_false, Bool.not_eq_true, Bool.not_eq_true', Bool.not_eq_false', decide_eq_true_eq, decide_eq_false_iff_not, Classical.not_not] at c_133
                    refine z_aload_n X dX8_entry_146 rfl ?_
                    refine z_getr2 X fX8_10 (zso_1 hS) (zsr_1_0 hS) rfl dX8_entry_147 ?_
                    refine z_iload_n X dX8_entry_150 rfl ?_
                    refine z_iload_n X dX8_entry_151 rfl ?_
                    refine z_iload_n X dX8_entry_152 rfl ?_
                    refine z_iload X dX8_entry_153 rfl ?_
                    refine z_iload X dX8_entry_155 rfl ?_
                    rcases Nat.lt_or_ge ne 40 with hn40 | hn40
                    · skip
                      skip
                      refine z_runV X kX8_114 (tX0_addEntry _ _ _ _ _ hS he hn40) (zso_2 hS) rfl rfl (Nat.le_of_ble_eq_true rfl) ⟨by decide, by decide⟩ ⟨by decide, by decide⟩ dX8_entry_157 ?_
                      rintro _ g1 s1 ⟨rfl, h8, h9⟩
                      replace h8 := h8.symm
                      subst h8
                      replace h9 := h9.symm
                      subst h9
                      refine z_istore X dX8_entry_160 (by decide) ?_
                      refine z_iload X dX8_entry_162 rfl ?_
                      refine z_iconst (v := -1) X (by decide) dX8_entry_164 ?_
                      refine z_icmp_ne (tgt := 178) X dX8_entry_165 (by decide) (fun c_165 => ?_) (fun c_165 => ?_)
                      · skip
                        try simp (disch := omega) only [zb_notn, zb_not, zb_n0, zb_0, Bool.not_eq_false, Bool.not_eq_true, Bool.not_eq_true', Bool.not_eq_false', decide_eq_true_eq, decide_eq_false_iff_not, Classical.not_not] at c_165
                        refine z_iload X dX8_entry_178 rfl ?_
                        refine z_rx ?_
                        refine z_iret X (by decide) (by decide) rfl dX8_entry_180 ?_
                        exact ⟨by unfold zx_entry; rw [if_neg (by simp_all [zino]), if_neg (by simp_all), zif_f (fun q => by rcases q with q | q | q; exact absurd (ht1.mpr q) (by simp_all); exact absurd (ht2.mpr q) (by simp_all); omega)], rfl, rfl, rfl⟩
                      · exact absurd c_165 (nI_ne_m1 (by omega))
                    · skip
                      obtain rfl : ne = 40 := by omega
                      refine z_runV X kX8_114 (tX0_addEntryF _ _ _ _ _ hS he) (zso_2 hS) rfl rfl (Nat.le_of_ble_eq_true rfl) ⟨by decide, by decide⟩ ⟨by decide, by decide⟩ dX8_entry_157 ?_
                      rintro _ g1 s1 ⟨rfl, h8, h9⟩
                      replace h8 := h8.symm
                      subst h8
                      replace h9 := h9.symm
                      subst h9
                      refine z_istore X dX8_entry_160 (by decide) ?_
                      refine z_iload X dX8_entry_162 rfl ?_
                      refine z_iconst (v := -1) X (by decide) dX8_entry_164 ?_
                      refine z_icmp_ne (tgt := 178) X dX8_entry_165 (by decide) (fun c_165 => ?_) (fun c_165 => ?_)
                      · exact absurd rfl c_165
                      · skip
                        try simp (disch := omega) only [zb_notn, zb_not, zb_n0, zb_0, Bool.not_eq_false, Bool.not_eq_true, Bool.not_eq_true', Bool.not_eq_false', decide_eq_true_eq, decide_eq_false_iff_not, Classical.not_not] at c_165
                        refine z_throw X Y (cls := "java/lang/IllegalStateException") (text := "there are 40 entries") (names := zENs) (by decide +kernel) (by decide +kernel) (z_gd 559 (by decide +kernel) (by decide +kernel)) (z_gd 39 (by decide +kernel) (by decide +kernel)) (List.mem_of_getElem? (i := 573) (by decide +kernel)) zat_IllegalStateException dX8_entry_168 dX8_entry_171 dX8_entry_172 dX8_entry_174 dX8_entry_177 (by decide) (by decide) (Nat.le_of_ble_eq_true rfl) (Nat.le_of_ble_eq_true rfl) (Nat.le_of_ble_eq_true rfl) (Nat.le_of_ble_eq_true rfl) ?_
                        exact ⟨⟨2, by unfold zx_entry; rw [if_neg (by simp_all [zino]), if_neg (by simp_all), zif_t (Or.inr (Or.inr rfl))], rfl⟩, rfl, rfl⟩
                  · skip
                    try simp (disch := omega) only [zb_notn, zb_not, zb_n0, zb_0, Bool.not_eq_false, Bool.not_eq_true, Bool.not_eq_true', Bool.not_eq_false', decide_eq_true_eq, decide_eq_false_iff_not, Classical.not_not] at c_133
                    refine z_throw X Y (cls := "java/lang/IllegalStateException") (text := "the phrase is there, or a code word too near") (names := zENs) (by decide +kernel) (by decide +kernel) (z_gd 559 (by decide +kernel) (by decide +kernel)) (z_gd 39 (by decide +kernel) (by decide +kernel)) (List.mem_of_getElem? (i := 568) (by decide +kernel)) zat_IllegalStateException dX8_entry_136 dX8_entry_139 dX8_entry_140 dX8_entry_142 dX8_entry_145 (by decide) (by decide) (Nat.le_of_ble_eq_true rfl) (Nat.le_of_ble_eq_true rfl) (Nat.le_of_ble_eq_true rfl) (Nat.le_of_ble_eq_true rfl) ?_
                    exact ⟨⟨2, by unfold zx_entry; rw [if_neg (by simp_all [zino]), if_neg (by simp_all), zif_t (by first | exact Or.inl (ht1.mp (by assumption)) | exact Or.inr (Or.inl (ht2.mp (by assumption))))], rfl⟩, rfl, rfl⟩
              · skip
                try simp (disch := omega) only [zb_notn, zb_not, zb_n0, zb_0, Bool.not_eq_false, Bool.not_eq_true, Bool.not_eq_true', Bool.not_eq_false', decide_eq_true_eq, decide_eq_false_iff_not, Classical.not_not] at c_90
                refine z_iload X dX8_entry_93 rfl ?_
                refine z_iconst (v := -1) X (by decide) dX8_entry_95 ?_
                refine z_icmp_eq (tgt := 109) X dX8_entry_96 (by decide) (fun c_96 => ?_) (fun c_96 => ?_)
                · skip
                  try simp (disch := omega) only [zb_notn, zb_not, zb_n0, zb_0, Bool.not_eq_false, Bool.not_eq_true, Bool.not_eq_true', Bool.not_eq_false', decide_eq_true_eq, decide_eq_false_iff_not, Classical.not_not] at c_96
                  refine z_aload_n X dX8_entry_109 rfl ?_
                  refine z_getr2 X fX8_10 (zso_1 hS) (zsr_1_0 hS) rfl dX8_entry_110 ?_
                  refine z_iload_n X dX8_entry_113 rfl ?_
                  refine z_iload_n X dX8_entry_114 rfl ?_
                  refine z_iload X dX8_entry_115 rfl ?_
                  refine z_iload X dX8_entry_117 rfl ?_
                  refine z_runV X kX8_105 (tX0_hasPhrase _ _ _ _ hS he he2) (zso_2 hS) rfl rfl (Nat.le_of_ble_eq_true rfl) ⟨by decide, by decide⟩ ⟨by decide, by decide⟩ dX8_entry_119 ?_
                  rintro _ g1 s1 ⟨t1, rfl, h8, h9, ht1⟩
                  replace h8 := h8.symm
                  subst h8
                  replace h9 := h9.symm
                  subst h9
                  refine z_if_ne (tgt := 136) X dX8_entry_122 (by decide) (fun c_122 => ?_) (fun c_122 => ?_)
                  · skip
                    try simp (disch := omega) only [zb_notn, zb_not, zb_n0, zb_0, Bool.not_eq_false, Bool.not_eq_true, Bool.not_eq_true', Bool.not_eq_false', decide_eq_true_eq, decide_eq_false_iff_not, Classical.not_not] at c_122
                    refine z_throw X Y (cls := "java/lang/IllegalStateException") (text := "the phrase is there, or a code word too near") (names := zENs) (by decide +kernel) (by decide +kernel) (z_gd 559 (by decide +kernel) (by decide +kernel)) (z_gd 39 (by decide +kernel) (by decide +kernel)) (List.mem_of_getElem? (i := 568) (by decide +kernel)) zat_IllegalStateException dX8_entry_136 dX8_entry_139 dX8_entry_140 dX8_entry_142 dX8_entry_145 (by decide) (by decide) (Nat.le_of_ble_eq_true rfl) (Nat.le_of_ble_eq_true rfl) (Nat.le_of_ble_eq_true rfl) (Nat.le_of_ble_eq_true rfl) ?_
                    exact ⟨⟨2, by unfold zx_entry; rw [if_neg (by simp_all [zino]), if_neg (by simp_all), zif_t (by first | exact Or.inl (ht1.mp (by assumption)) | exact Or.inr (Or.inl (ht2.mp (by assumption))))], rfl⟩, rfl, rfl⟩
                  · skip
                    try simp (disch := omega) only [zb_notn, zb_not, zb_n0, zb_0, Bool.not_eq_false, Bool.not_eq_true, Bool.not_eq_true', Bool.not_eq_false', decide_eq_true_eq, decide_eq_false_iff_not, Classical.not_not] at c_122
                    refine z_aload_n X dX8_entry_125 rfl ?_
                    refine z_getr2 X fX8_10 (zso_1 hS) (zsr_1_0 hS) rfl dX8_entry_126 ?_
                    refine z_iload_n X dX8_entry_129 rfl ?_
                    obtain ⟨W, hW, rfl⟩ := zwd_of c_63
                    refine z_runV X kX8_109 (tX0_hasCodeNear W hS he he2 hC hW) (zso_2 hS) rfl rfl (Nat.le_of_ble_eq_true rfl) ⟨by decide, by decide⟩ ⟨by decide, by decide⟩ dX8_entry_130 ?_
                    rintro _ g1 s1 ⟨t2, rfl, h8, h9, ht2⟩
                    replace h8 := h8.symm
                    subst h8
                    replace h9 := h9.symm
                    subst h9
                    refine z_if_eq (tgt := 146) X dX8_entry_133 (by decide) (fun c_133 => ?_) (fun c_133 => ?_)
                    · skip
                      try simp (disch := omega) only [zb_notn, zb_not, zb_n0, zb_0, Bool.not_eq_false, Bool.not_eq_true, Bool.not_eq_true', Bool.not_eq_false', decide_eq_true_eq, decide_eq_false_iff_not, Classical.not_not] at c_133
                      refine z_aload_n X dX8_entry_146 rfl ?_
                      refine z_getr2 X fX8_10 (zso_1 hS) (zsr_1_0 hS) rfl dX8_entry_147 ?_
                      refine z_iload_n X dX8_entry_150 rfl ?_
                      refine z_iload_n X dX8_entry_151 rfl ?_
                      refine z_iload_n X dX8_entry_152 rfl ?_
                      refine z_iload X dX8_entry_153 rfl ?_
                      refine z_iload X dX8_entry_155 rfl ?_
                      rcases Nat.lt_or_ge ne 40 with hn40 | hn40
                      · skip
                        skip
                        refine z_runV X kX8_114 (tX0_addEntry _ _ _ _ _ hS he hn40) (zso_2 hS) rfl rfl (Nat.le_of_ble_eq_true rfl) ⟨by decide, by decide⟩ ⟨by decide, by decide⟩ dX8_entry_157 ?_
                        rintro _ g1 s1 ⟨rfl, h8, h9⟩
                        replace h8 := h8.symm
                        subst h8
                        replace h9 := h9.symm
                        subst h9
                        refine z_istore X dX8_entry_160 (by decide) ?_
                        refine z_iload X dX8_entry_162 rfl ?_
                        refine z_iconst (v := -1) X (by decide) dX8_entry_164 ?_
                        refine z_icmp_ne (tgt := 178) X dX8_entry_165 (by decide) (fun c_165 => ?_) (fun c_165 => ?_)
                        · skip
                          try simp (disch := omega) only [zb_notn, zb_not, zb_n0, zb_0, Bool.not_eq_false, Bool.not_eq_true, Bool.not_eq_true', Bool.not_eq_false', decide_eq_true_eq, decide_eq_false_iff_not, Classical.not_not] at c_165
                          refine z_iload X dX8_entry_178 rfl ?_
                          refine z_rx ?_
                          refine z_iret X (by decide) (by decide) rfl dX8_entry_180 ?_
                          exact ⟨by unfold zx_entry; rw [if_neg (by simp_all [zino]), if_neg (by simp_all), zif_f (fun q => by rcases q with q | q | q; exact absurd (ht1.mpr q) (by simp_all); exact absurd (ht2.mpr q) (by simp_all); omega)], rfl, rfl, rfl⟩
                        · exact absurd c_165 (nI_ne_m1 (by omega))
                      · skip
                        obtain rfl : ne = 40 := by omega
                        refine z_runV X kX8_114 (tX0_addEntryF _ _ _ _ _ hS he) (zso_2 hS) rfl rfl (Nat.le_of_ble_eq_true rfl) ⟨by decide, by decide⟩ ⟨by decide, by decide⟩ dX8_entry_157 ?_
                        rintro _ g1 s1 ⟨rfl, h8, h9⟩
                        replace h8 := h8.symm
                        subst h8
                        replace h9 := h9.symm
                        subst h9
                        refine z_istore X dX8_entry_160 (by decide) ?_
                        refine z_iload X dX8_entry_162 rfl ?_
                        refine z_iconst (v := -1) X (by decide) dX8_entry_164 ?_
                        refine z_icmp_ne (tgt := 178) X dX8_entry_165 (by decide) (fun c_165 => ?_) (fun c_165 => ?_)
                        · exact absurd rfl c_165
                        · skip
                          try simp (disch := omega) only [zb_notn, zb_not, zb_n0, zb_0, Bool.not_eq_false, Bool.not_eq_true, Bool.not_eq_true', Bool.not_eq_false', decide_eq_true_eq, decide_eq_false_iff_not, Classical.not_not] at c_165
                          refine z_throw X Y (cls := "java/lang/IllegalStateException") (text := "there are 40 entries") (names := zENs) (by decide +kernel) (by decide +kernel) (z_gd 559 (by decide +kernel) (by decide +kernel)) (z_gd 39 (by decide +kernel) (by decide +kernel)) (List.mem_of_getElem? (i := 573) (by decide +kernel)) zat_IllegalStateException dX8_entry_168 dX8_entry_171 dX8_entry_172 dX8_entry_174 dX8_entry_177 (by decide) (by decide) (Nat.le_of_ble_eq_true rfl) (Nat.le_of_ble_eq_true rfl) (Nat.le_of_ble_eq_true rfl) (Nat.le_of_ble_eq_true rfl) ?_
                          exact ⟨⟨2, by unfold zx_entry; rw [if_neg (by simp_all [zino]), if_neg (by simp_all), zif_t (Or.inr (Or.inr rfl))], rfl⟩, rfl, rfl⟩
                    · skip
                      try simp (disch := omega) only [zb_notn, zb_not, zb_n0, zb_0, Bool.not_eq_false, Bool.not_eq_true, Bool.not_eq_true', Bool.not_eq_false', decide_eq_true_eq, decide_eq_false_iff_not, Classical.not_not] at c_133
                      refine z_throw X Y (cls := "java/lang/IllegalStateException") (text := "the phrase is there, or a code word too near") (names := zENs) (by decide +kernel) (by decide +kernel) (z_gd 559 (by decide +kernel) (by decide +kernel)) (z_gd 39 (by decide +kernel) (by decide +kernel)) (List.mem_of_getElem? (i := 568) (by decide +kernel)) zat_IllegalStateException dX8_entry_136 dX8_entry_139 dX8_entry_140 dX8_entry_142 dX8_entry_145 (by decide) (by decide) (Nat.le_of_ble_eq_true rfl) (Nat.le_of_ble_eq_true rfl) (Nat.le_of_ble_eq_true rfl) (Nat.le_of_ble_eq_true rfl) ?_
                      exact ⟨⟨2, by unfold zx_entry; rw [if_neg (by simp_all [zino]), if_neg (by simp_all), zif_t (by first | exact Or.inl (ht1.mp (by assumption)) | exact Or.inr (Or.inl (ht2.mp (by assumption))))], rfl⟩, rfl, rfl⟩
                · skip
                  try simp (disch := omega) only [zb_notn, zb_not, zb_n0, zb_0, Bool.not_eq_false, Bool.not_eq_true, Bool.not_eq_true', Bool.not_eq_false', decide_eq_true_eq, decide_eq_false_iff_not, Classical.not_not] at c_96
                  refine z_throw X Y (cls := "java/lang/IllegalArgumentException") (text := "an idea stands behind NONE") (names := zENs) (by decide +kernel) (by decide +kernel) (z_gd 321 (by decide +kernel) (by decide +kernel)) (z_gd 38 (by decide +kernel) (by decide +kernel)) (List.mem_of_getElem? (i := 559) (by decide +kernel)) zat_IllegalArgumentException dX8_entry_99 dX8_entry_102 dX8_entry_103 dX8_entry_105 dX8_entry_108 (by decide) (by decide) (Nat.le_of_ble_eq_true rfl) (Nat.le_of_ble_eq_true rfl) (Nat.le_of_ble_eq_true rfl) (Nat.le_of_ble_eq_true rfl) ?_
                  exact ⟨⟨1, by unfold zx_entry; simp_all [zino], rfl⟩, rfl, rfl⟩
            · skip
              try simp (disch := omega) only [zb_notn, zb_not, zb_n0, zb_0, Bool.not_eq_false, Bool.not_eq_true, Bool.not_eq_true', Bool.not_eq_false', decide_eq_true_eq, decide_eq_false_iff_not, Classical.not_not] at c_78
              refine z_iload X dX8_entry_81 rfl ?_
              refine z_iconst (v := -1) X (by decide) dX8_entry_83 ?_
              refine z_icmp_ne (tgt := 99) X dX8_entry_84 (by decide) (fun c_84 => ?_) (fun c_84 => ?_)
              · skip
                try simp (disch := omega) only [zb_notn, zb_not, zb_n0, zb_0, Bool.not_eq_false, Bool.not_eq_true, Bool.not_eq_true', Bool.not_eq_false', decide_eq_true_eq, decide_eq_false_iff_not, Classical.not_not] at c_84
                refine z_throw X Y (cls := "java/lang/IllegalArgumentException") (text := "an idea stands behind NONE") (names := zENs) (by decide +kernel) (by decide +kernel) (z_gd 321 (by decide +kernel) (by decide +kernel)) (z_gd 38 (by decide +kernel) (by decide +kernel)) (List.mem_of_getElem? (i := 559) (by decide +kernel)) zat_IllegalArgumentException dX8_entry_99 dX8_entry_102 dX8_entry_103 dX8_entry_105 dX8_entry_108 (by decide) (by decide) (Nat.le_of_ble_eq_true rfl) (Nat.le_of_ble_eq_true rfl) (Nat.le_of_ble_eq_true rfl) (Nat.le_of_ble_eq_true rfl) ?_
                exact ⟨⟨1, by unfold zx_entry; simp_all [zino], rfl⟩, rfl, rfl⟩
              · skip
                try simp (disch := omega) only [zb_notn, zb_not, zb_n0, zb_0, Bool.not_eq_false, Bool.not_eq_true, Bool.not_eq_true', Bool.not_eq_false', decide_eq_true_eq, decide_eq_false_iff_not, Classical.not_not] at c_84
                refine z_iload X dX8_entry_87 rfl ?_
                refine z_iconst (v := -1) X (by decide) dX8_entry_89 ?_
                refine z_icmp_ne (tgt := 109) X dX8_entry_90 (by decide) (fun c_90 => ?_) (fun c_90 => ?_)
                · skip
                  try simp (disch := omega) only [zb_notn, zb_not, zb_n0, zb_0, Bool.not_eq_false, Bool.not_eq_true, Bool.not_eq_true', Bool.not_eq_false', decide_eq_true_eq, decide_eq_false_iff_not, Classical.not_not] at c_90
                  refine z_aload_n X dX8_entry_109 rfl ?_
                  refine z_getr2 X fX8_10 (zso_1 hS) (zsr_1_0 hS) rfl dX8_entry_110 ?_
                  refine z_iload_n X dX8_entry_113 rfl ?_
                  refine z_iload_n X dX8_entry_114 rfl ?_
                  refine z_iload X dX8_entry_115 rfl ?_
                  refine z_iload X dX8_entry_117 rfl ?_
                  refine z_runV X kX8_105 (tX0_hasPhrase _ _ _ _ hS he he2) (zso_2 hS) rfl rfl (Nat.le_of_ble_eq_true rfl) ⟨by decide, by decide⟩ ⟨by decide, by decide⟩ dX8_entry_119 ?_
                  rintro _ g1 s1 ⟨t1, rfl, h8, h9, ht1⟩
                  replace h8 := h8.symm
                  subst h8
                  replace h9 := h9.symm
                  subst h9
                  refine z_if_ne (tgt := 136) X dX8_entry_122 (by decide) (fun c_122 => ?_) (fun c_122 => ?_)
                  · skip
                    try simp (disch := omega) only [zb_notn, zb_not, zb_n0, zb_0, Bool.not_eq_false, Bool.not_eq_true, Bool.not_eq_true', Bool.not_eq_false', decide_eq_true_eq, decide_eq_false_iff_not, Classical.not_not] at c_122
                    refine z_throw X Y (cls := "java/lang/IllegalStateException") (text := "the phrase is there, or a code word too near") (names := zENs) (by decide +kernel) (by decide +kernel) (z_gd 559 (by decide +kernel) (by decide +kernel)) (z_gd 39 (by decide +kernel) (by decide +kernel)) (List.mem_of_getElem? (i := 568) (by decide +kernel)) zat_IllegalStateException dX8_entry_136 dX8_entry_139 dX8_entry_140 dX8_entry_142 dX8_entry_145 (by decide) (by decide) (Nat.le_of_ble_eq_true rfl) (Nat.le_of_ble_eq_true rfl) (Nat.le_of_ble_eq_true rfl) (Nat.le_of_ble_eq_true rfl) ?_
                    exact ⟨⟨2, by unfold zx_entry; rw [if_neg (by simp_all [zino]), if_neg (by simp_all), zif_t (by first | exact Or.inl (ht1.mp (by assumption)) | exact Or.inr (Or.inl (ht2.mp (by assumption))))], rfl⟩, rfl, rfl⟩
                  · skip
                    try simp (disch := omega) only [zb_notn, zb_not, zb_n0, zb_0, Bool.not_eq_false, Bool.not_eq_true, Bool.not_eq_true', Bool.not_eq_false', decide_eq_true_eq, decide_eq_false_iff_not, Classical.not_not] at c_122
                    refine z_aload_n X dX8_entry_125 rfl ?_
                    refine z_getr2 X fX8_10 (zso_1 hS) (zsr_1_0 hS) rfl dX8_entry_126 ?_
                    refine z_iload_n X dX8_entry_129 rfl ?_
                    obtain ⟨W, hW, rfl⟩ := zwd_of c_63
                    refine z_runV X kX8_109 (tX0_hasCodeNear W hS he he2 hC hW) (zso_2 hS) rfl rfl (Nat.le_of_ble_eq_true rfl) ⟨by decide, by decide⟩ ⟨by decide, by decide⟩ dX8_entry_130 ?_
                    rintro _ g1 s1 ⟨t2, rfl, h8, h9, ht2⟩
                    replace h8 := h8.symm
                    subst h8
                    replace h9 := h9.symm
                    subst h9
                    refine z_if_eq (tgt := 146) X dX8_entry_133 (by decide) (fun c_133 => ?_) (fun c_133 => ?_)
                    · skip
                      try simp (disch := omega) only [zb_notn, zb_not, zb_n0, zb_0, Bool.not_eq_false, Bool.not_eq_true, Bool.not_eq_true', Bool.not_eq_false', decide_eq_true_eq, decide_eq_false_iff_not, Classical.not_not] at c_133
                      refine z_aload_n X dX8_entry_146 rfl ?_
                      refine z_getr2 X fX8_10 (zso_1 hS) (zsr_1_0 hS) rfl dX8_entry_147 ?_
                      refine z_iload_n X dX8_entry_150 rfl ?_
                      refine z_iload_n X dX8_entry_151 rfl ?_
                      refine z_iload_n X dX8_entry_152 rfl ?_
                      refine z_iload X dX8_entry_153 rfl ?_
                      refine z_iload X dX8_entry_155 rfl ?_
                      rcases Nat.lt_or_ge ne 40 with hn40 | hn40
                      · skip
                        skip
                        refine z_runV X kX8_114 (tX0_addEntry _ _ _ _ _ hS he hn40) (zso_2 hS) rfl rfl (Nat.le_of_ble_eq_true rfl) ⟨by decide, by decide⟩ ⟨by decide, by decide⟩ dX8_entry_157 ?_
                        rintro _ g1 s1 ⟨rfl, h8, h9⟩
                        replace h8 := h8.symm
                        subst h8
                        replace h9 := h9.symm
                        subst h9
                        refine z_istore X dX8_entry_160 (by decide) ?_
                        refine z_iload X dX8_entry_162 rfl ?_
                        refine z_iconst (v := -1) X (by decide) dX8_entry_164 ?_
                        refine z_icmp_ne (tgt := 178) X dX8_entry_165 (by decide) (fun c_165 => ?_) (fun c_165 => ?_)
                        · skip
                          try simp (disch := omega) only [zb_notn, zb_not, zb_n0, zb_0, Bool.not_eq_false, Bool.not_eq_true, Bool.not_eq_true', Bool.not_eq_false', decide_eq_true_eq, decide_eq_false_iff_not, Classical.not_not] at c_165
                          refine z_iload X dX8_entry_178 rfl ?_
                          refine z_rx ?_
                          refine z_iret X (by decide) (by decide) rfl dX8_entry_180 ?_
                          exact ⟨by unfold zx_entry; rw [if_neg (by simp_all [zino]), if_neg (by simp_all), zif_f (fun q => by rcases q with q | q | q; exact absurd (ht1.mpr q) (by simp_all); exact absurd (ht2.mpr q) (by simp_all); omega)], rfl, rfl, rfl⟩
                        · exact absurd c_165 (nI_ne_m1 (by omega))
                      · skip
                        obtain rfl : ne = 40 := by omega
                        refine z_runV X kX8_114 (tX0_addEntryF _ _ _ _ _ hS he) (zso_2 hS) rfl rfl (Nat.le_of_ble_eq_true rfl) ⟨by decide, by decide⟩ ⟨by decide, by decide⟩ dX8_entry_157 ?_
                        rintro _ g1 s1 ⟨rfl, h8, h9⟩
                        replace h8 := h8.symm
                        subst h8
                        replace h9 := h9.symm
                        subst h9
                        refine z_istore X dX8_entry_160 (by decide) ?_
                        refine z_iload X dX8_entry_162 rfl ?_
                        refine z_iconst (v := -1) X (by decide) dX8_entry_164 ?_
                        refine z_icmp_ne (tgt := 178) X dX8_entry_165 (by decide) (fun c_165 => ?_) (fun c_165 => ?_)
                        · exact absurd rfl c_165
                        · skip
                          try simp (disch := omega) only [zb_notn, zb_not, zb_n0, zb_0, Bool.not_eq_false, Bool.not_eq_true, Bool.not_eq_true', Bool.not_eq_false', decide_eq_true_eq, decide_eq_false_iff_not, Classical.not_not] at c_165
                          refine z_throw X Y (cls := "java/lang/IllegalStateException") (text := "there are 40 entries") (names := zENs) (by decide +kernel) (by decide +kernel) (z_gd 559 (by decide +kernel) (by decide +kernel)) (z_gd 39 (by decide +kernel) (by decide +kernel)) (List.mem_of_getElem? (i := 573) (by decide +kernel)) zat_IllegalStateException dX8_entry_168 dX8_entry_171 dX8_entry_172 dX8_entry_174 dX8_entry_177 (by decide) (by decide) (Nat.le_of_ble_eq_true rfl) (Nat.le_of_ble_eq_true rfl) (Nat.le_of_ble_eq_true rfl) (Nat.le_of_ble_eq_true rfl) ?_
                          exact ⟨⟨2, by unfold zx_entry; rw [if_neg (by simp_all [zino]), if_neg (by simp_all), zif_t (Or.inr (Or.inr rfl))], rfl⟩, rfl, rfl⟩
                    · skip
                      try simp (disch := omega) only [zb_notn, zb_not, zb_n0, zb_0, Bool.not_eq_false, Bool.not_eq_true, Bool.not_eq_true', Bool.not_eq_false', decide_eq_true_eq, decide_eq_false_iff_not, Classical.not_not] at c_133
                      refine z_throw X Y (cls := "java/lang/IllegalStateException") (text := "the phrase is there, or a code word too near") (names := zENs) (by decide +kernel) (by decide +kernel) (z_gd 559 (by decide +kernel) (by decide +kernel)) (z_gd 39 (by decide +kernel) (by decide +kernel)) (List.mem_of_getElem? (i := 568) (by decide +kernel)) zat_IllegalStateException dX8_entry_136 dX8_entry_139 dX8_entry_140 dX8_entry_142 dX8_entry_145 (by decide) (by decide) (Nat.le_of_ble_eq_true rfl) (Nat.le_of_ble_eq_true rfl) (Nat.le_of_ble_eq_true rfl) (Nat.le_of_ble_eq_true rfl) ?_
                      exact ⟨⟨2, by unfold zx_entry; rw [if_neg (by simp_all [zino]), if_neg (by simp_all), zif_t (by first | exact Or.inl (ht1.mp (by assumption)) | exact Or.inr (Or.inl (ht2.mp (by assumption))))], rfl⟩, rfl, rfl⟩
                · skip
                  try simp (disch := omega) only [zb_notn, zb_not, zb_n0, zb_0, Bool.not_eq_false, Bool.not_eq_true, Bool.not_eq_true', Bool.not_eq_false', decide_eq_true_eq, decide_eq_false_iff_not, Classical.not_not] at c_90
                  refine z_iload X dX8_entry_93 rfl ?_
                  refine z_iconst (v := -1) X (by decide) dX8_entry_95 ?_
                  refine z_icmp_eq (tgt := 109) X dX8_entry_96 (by decide) (fun c_96 => ?_) (fun c_96 => ?_)
                  · skip
                    try simp (disch := omega) only [zb_notn, zb_not, zb_n0, zb_0, Bool.not_eq_false, Bool.not_eq_true, Bool.not_eq_true', Bool.not_eq_false', decide_eq_true_eq, decide_eq_false_iff_not, Classical.not_not] at c_96
                    refine z_aload_n X dX8_entry_109 rfl ?_
                    refine z_getr2 X fX8_10 (zso_1 hS) (zsr_1_0 hS) rfl dX8_entry_110 ?_
                    refine z_iload_n X dX8_entry_113 rfl ?_
                    refine z_iload_n X dX8_entry_114 rfl ?_
                    refine z_iload X dX8_entry_115 rfl ?_
                    refine z_iload X dX8_entry_117 rfl ?_
                    refine z_runV X kX8_105 (tX0_hasPhrase _ _ _ _ hS he he2) (zso_2 hS) rfl rfl (Nat.le_of_ble_eq_true rfl) ⟨by decide, by decide⟩ ⟨by decide, by decide⟩ dX8_entry_119 ?_
                    rintro _ g1 s1 ⟨t1, rfl, h8, h9, ht1⟩
                    replace h8 := h8.symm
                    subst h8
                    replace h9 := h9.symm
                    subst h9
                    refine z_if_ne (tgt := 136) X dX8_entry_122 (by decide) (fun c_122 => ?_) (fun c_122 => ?_)
                    · skip
                      try simp (disch := omega) only [zb_notn, zb_not, zb_n0, zb_0, Bool.not_eq_false, Bool.not_eq_true, Bool.not_eq_true', Bool.not_eq_false', decide_eq_true_eq, decide_eq_false_iff_not, Classical.not_not] at c_122
                      refine z_throw X Y (cls := "java/lang/IllegalStateException") (text := "the phrase is there, or a code word too near") (names := zENs) (by decide +kernel) (by decide +kernel) (z_gd 559 (by decide +kernel) (by decide +kernel)) (z_gd 39 (by decide +kernel) (by decide +kernel)) (List.mem_of_getElem? (i := 568) (by decide +kernel)) zat_IllegalStateException dX8_entry_136 dX8_entry_139 dX8_entry_140 dX8_entry_142 dX8_entry_145 (by decide) (by decide) (Nat.le_of_ble_eq_true rfl) (Nat.le_of_ble_eq_true rfl) (Nat.le_of_ble_eq_true rfl) (Nat.le_of_ble_eq_true rfl) ?_
                      exact ⟨⟨2, by unfold zx_entry; rw [if_neg (by simp_all [zino]), if_neg (by simp_all), zif_t (by first | exact Or.inl (ht1.mp (by assumption)) | exact Or.inr (Or.inl (ht2.mp (by assumption))))], rfl⟩, rfl, rfl⟩
                    · skip
                      try simp (disch := omega) only [zb_notn, zb_not, zb_n0, zb_0, Bool.not_eq_false, Bool.not_eq_true, Bool.not_eq_true', Bool.not_eq_false', decide_eq_true_eq, decide_eq_false_iff_not, Classical.not_not] at c_122
                      refine z_aload_n X dX8_entry_125 rfl ?_
                      refine z_getr2 X fX8_10 (zso_1 hS) (zsr_1_0 hS) rfl dX8_entry_126 ?_
                      refine z_iload_n X dX8_entry_129 rfl ?_
                      obtain ⟨W, hW, rfl⟩ := zwd_of c_63
                      refine z_runV X kX8_109 (tX0_hasCodeNear W hS he he2 hC hW) (zso_2 hS) rfl rfl (Nat.le_of_ble_eq_true rfl) ⟨by decide, by decide⟩ ⟨by decide, by decide⟩ dX8_entry_130 ?_
                      rintro _ g1 s1 ⟨t2, rfl, h8, h9, ht2⟩
                      replace h8 := h8.symm
                      subst h8
                      replace h9 := h9.symm
                      subst h9
                      refine z_if_eq (tgt := 146) X dX8_entry_133 (by decide) (fun c_133 => ?_) (fun c_133 => ?_)
                      · skip
                        try simp (disch := omega) only [zb_notn, zb_not, zb_n0, zb_0, Bool.not_eq_false, Bool.not_eq_true, Bool.not_eq_true', Bool.not_eq_false', decide_eq_true_eq, decide_eq_false_iff_not, Classical.not_not] at c_133
                        refine z_aload_n X dX8_entry_146 rfl ?_
                        refine z_getr2 X fX8_10 (zso_1 hS) (zsr_1_0 hS) rfl dX8_entry_147 ?_
                        refine z_iload_n X dX8_entry_150 rfl ?_
                        refine z_iload_n X dX8_entry_151 rfl ?_
                        refine z_iload_n X dX8_entry_152 rfl ?_
                        refine z_iload X dX8_entry_153 rfl ?_
                        refine z_iload X dX8_entry_155 rfl ?_
                        rcases Nat.lt_or_ge ne 40 with hn40 | hn40
                        · skip
                          skip
                          refine z_runV X kX8_114 (tX0_addEntry _ _ _ _ _ hS he hn40) (zso_2 hS) rfl rfl (Nat.le_of_ble_eq_true rfl) ⟨by decide, by decide⟩ ⟨by decide, by decide⟩ dX8_entry_157 ?_
                          rintro _ g1 s1 ⟨rfl, h8, h9⟩
                          replace h8 := h8.symm
                          subst h8
                          replace h9 := h9.symm
                          subst h9
                          refine z_istore X dX8_entry_160 (by decide) ?_
                          refine z_iload X dX8_entry_162 rfl ?_
                          refine z_iconst (v := -1) X (by decide) dX8_entry_164 ?_
                          refine z_icmp_ne (tgt := 178) X dX8_entry_165 (by decide) (fun c_165 => ?_) (fun c_165 => ?_)
                          · skip
                            try simp (disch := omega) only [zb_notn, zb_not, zb_n0, zb_0, Bool.not_eq_false, Bool.not_eq_true, Bool.not_eq_true', Bool.not_eq_false', decide_eq_true_eq, decide_eq_false_iff_not, Classical.not_not] at c_165
                            refine z_iload X dX8_entry_178 rfl ?_
                            refine z_rx ?_
                            refine z_iret X (by decide) (by decide) rfl dX8_entry_180 ?_
                            exact ⟨by unfold zx_entry; rw [if_neg (by simp_all [zino]), if_neg (by simp_all), zif_f (fun q => by rcases q with q | q | q; exact absurd (ht1.mpr q) (by simp_all); exact absurd (ht2.mpr q) (by simp_all); omega)], rfl, rfl, rfl⟩
                          · exact absurd c_165 (nI_ne_m1 (by omega))
                        · skip
                          obtain rfl : ne = 40 := by omega
                          refine z_runV X kX8_114 (tX0_addEntryF _ _ _ _ _ hS he) (zso_2 hS) rfl rfl (Nat.le_of_ble_eq_true rfl) ⟨by decide, by decide⟩ ⟨by decide, by decide⟩ dX8_entry_157 ?_
                          rintro _ g1 s1 ⟨rfl, h8, h9⟩
                          replace h8 := h8.symm
                          subst h8
                          replace h9 := h9.symm
                          subst h9
                          refine z_istore X dX8_entry_160 (by decide) ?_
                          refine z_iload X dX8_entry_162 rfl ?_
                          refine z_iconst (v := -1) X (by decide) dX8_entry_164 ?_
                          refine z_icmp_ne (tgt := 178) X dX8_entry_165 (by decide) (fun c_165 => ?_) (fun c_165 => ?_)
                          · exact absurd rfl c_165
                          · skip
                            try simp (disch := omega) only [zb_notn, zb_not, zb_n0, zb_0, Bool.not_eq_false, Bool.not_eq_true, Bool.not_eq_true', Bool.not_eq_false', decide_eq_true_eq, decide_eq_false_iff_not, Classical.not_not] at c_165
                            refine z_throw X Y (cls := "java/lang/IllegalStateException") (text := "there are 40 entries") (names := zENs) (by decide +kernel) (by decide +kernel) (z_gd 559 (by decide +kernel) (by decide +kernel)) (z_gd 39 (by decide +kernel) (by decide +kernel)) (List.mem_of_getElem? (i := 573) (by decide +kernel)) zat_IllegalStateException dX8_entry_168 dX8_entry_171 dX8_entry_172 dX8_entry_174 dX8_entry_177 (by decide) (by decide) (Nat.le_of_ble_eq_true rfl) (Nat.le_of_ble_eq_true rfl) (Nat.le_of_ble_eq_true rfl) (Nat.le_of_ble_eq_true rfl) ?_
                            exact ⟨⟨2, by unfold zx_entry; rw [if_neg (by simp_all [zino]), if_neg (by simp_all), zif_t (Or.inr (Or.inr rfl))], rfl⟩, rfl, rfl⟩
                      · skip
                        try simp (disch := omega) only [zb_notn, zb_not, zb_n0, zb_0, Bool.not_eq_false, Bool.not_eq_true, Bool.not_eq_true', Bool.not_eq_false', decide_eq_true_eq, decide_eq_false_iff_not, Classical.not_not] at c_133
                        refine z_throw X Y (cls := "java/lang/IllegalStateException") (text := "the phrase is there, or a code word too near") (names := zENs) (by decide +kernel) (by decide +kernel) (z_gd 559 (by decide +kernel) (by decide +kernel)) (z_gd 39 (by decide +kernel) (by decide +kernel)) (List.mem_of_getElem? (i := 568) (by decide +kernel)) zat_IllegalStateException dX8_entry_136 dX8_entry_139 dX8_entry_140 dX8_entry_142 dX8_entry_145 (by decide) (by decide) (Nat.le_of_ble_eq_true rfl) (Nat.le_of_ble_eq_true rfl) (Nat.le_of_ble_eq_true rfl) (Nat.le_of_ble_eq_true rfl) ?_
                        exact ⟨⟨2, by unfold zx_entry; rw [if_neg (by simp_all [zino]), if_neg (by simp_all), zif_t (by first | exact Or.inl (ht1.mp (by assumption)) | exact Or.inr (Or.inl (ht2.mp (by assumption))))], rfl⟩, rfl, rfl⟩
                  · skip
                    try simp (disch := omega) only [zb_notn, zb_not, zb_n0, zb_0, Bool.not_eq_false, Bool.not_eq_true, Bool.not_eq_true', Bool.not_eq_false', decide_eq_true_eq, decide_eq_false_iff_not, Classical.not_not] at c_96
                    refine z_throw X Y (cls := "java/lang/IllegalArgumentException") (text := "an idea stands behind NONE") (names := zENs) (by decide +kernel) (by decide +kernel) (z_gd 321 (by decide +kernel) (by decide +kernel)) (z_gd 38 (by decide +kernel) (by decide +kernel)) (List.mem_of_getElem? (i := 559) (by decide +kernel)) zat_IllegalArgumentException dX8_entry_99 dX8_entry_102 dX8_entry_103 dX8_entry_105 dX8_entry_108 (by decide) (by decide) (Nat.le_of_ble_eq_true rfl) (Nat.le_of_ble_eq_true rfl) (Nat.le_of_ble_eq_true rfl) (Nat.le_of_ble_eq_true rfl) ?_
                    exact ⟨⟨1, by unfold zx_entry; simp_all [zino], rfl⟩, rfl, rfl⟩
          · skip
            try simp (disch := omega) only [zb_notn, zb_not, zb_n0, zb_0, Bool.not_eq_false, Bool.not_eq_true, Bool.not_eq_true', Bool.not_eq_false', decide_eq_true_eq, decide_eq_false_iff_not, Classical.not_not] at c_63
            refine z_throw X Y (cls := "java/lang/IllegalArgumentException") (text := "word is out of range") (names := zENs) (by decide +kernel) (by decide +kernel) (z_gd 321 (by decide +kernel) (by decide +kernel)) (z_gd 38 (by decide +kernel) (by decide +kernel)) (List.mem_of_getElem? (i := 558) (by decide +kernel)) zat_IllegalArgumentException dX8_entry_66 dX8_entry_69 dX8_entry_70 dX8_entry_72 dX8_entry_75 (by decide) (by decide) (Nat.le_of_ble_eq_true rfl) (Nat.le_of_ble_eq_true rfl) (Nat.le_of_ble_eq_true rfl) (Nat.le_of_ble_eq_true rfl) ?_
            exact ⟨⟨1, by unfold zx_entry; simp_all [zino], rfl⟩, rfl, rfl⟩
        · skip
          try simp (disch := omega) only [zb_notn, zb_not, zb_n0, zb_0, Bool.not_eq_false, Bool.not_eq_true, Bool.not_eq_true', Bool.not_eq_false', decide_eq_true_eq, decide_eq_false_iff_not, Classical.not_not] at c_43
          refine z_throw X Y (cls := "java/lang/IndexOutOfBoundsException") (text := "no such idea") (names := zENs) (by decide +kernel) (by decide +kernel) (z_gd 248 (by decide +kernel) (by decide +kernel)) (z_gd 40 (by decide +kernel) (by decide +kernel)) (List.mem_of_getElem? (i := 556) (by decide +kernel)) zat_IndexOutOfBoundsException dX8_entry_46 dX8_entry_49 dX8_entry_50 dX8_entry_52 dX8_entry_55 (by decide) (by decide) (Nat.le_of_ble_eq_true rfl) (Nat.le_of_ble_eq_true rfl) (Nat.le_of_ble_eq_true rfl) (Nat.le_of_ble_eq_true rfl) ?_
          exact ⟨⟨0, by unfold zx_entry; simp_all [zino], rfl⟩, rfl, rfl⟩

def zx_cands (w : Int32) : Nat := if w < 0 ∨ 11881375 < w then 1 else 0
def zx_cand (w x : Int32) : Nat := if x < 0 then 1 else if w < 0 ∨ 11881375 < w then 2 else 0
def zx_office (no : Nat) : Nat := if no = 8 then 1 else 0
def zx_cable (no nc : Nat) (a b r s : Int32) : Nat := if ¬ (zin a no = true ∧ zin b no = true) then 1 else if a = b ∨ (r < 1 ∨ 100 < r) ∨ (s < 1 ∨ 20 < s) then 2 else if nc = 12 then 3 else 0
def zx_in (n : Nat) (x : Int32) : Nat := if zin x n = true then 0 else 1
def zx_key (no : Nat) (x y : Int32) : Nat := if ¬ zin x no = true then 1 else if y < 0 ∨ 39 < y then 2 else 0
theorem zcnt_le40 {P : Nat → Prop} {n : Nat} (h : n ≤ 40) : zcnt P n ≤ 40 := Nat.le_trans (zcnt_le P n) h
abbrev NX8_candidates : zM := (yX8_candidates, cX8_candidates, 2, (some .int), 6, 1, 6, 140)
set_option maxHeartbeats 4000000 in
set_option maxRecDepth 100000 in
theorem tX8_candidates {l : Launch} {D : va_G} {cy : Nat → ClassId} {z0 : zRg} {g : zSh} {σ : zIn} (hfl : l.stackTraces = false) {ne : Nat} (w : Int32) (hS : zS g) (he : σ 2 5 = nI ne) (he2 : ne ≤ 40) (hC : ∀ k, k < ne → zwd (σ 4 k)) : z_Cx l D cy z0 NX8_candidates [.ref (g.2.1 1), .int w] g σ (fun v g' σ' => zx_cands w = 0 ∧ g' = g ∧ zfo σ σ' ∧ v = some (.int (nI (zcnt (zP (σ 4) ne w) ne)))) (fun E g' σ' => zXk ["java/lang/IllegalArgumentException"] (zx_cands w) E ∧ g' = g ∧ σ' = σ) := by
  refine z_ofX hfl (by decide) (z_cr (z_ci z_c0)) (Nat.le_of_ble_eq_true rfl) ?_
  intro p e s m args below meth c X Y
  refine z_iload_n X dX8_candidates_0 rfl ?_
  refine z_iconst (v := 0) X (by decide) dX8_candidates_1 ?_
  refine z_ldc X qX8_100 dX8_candidates_2 ?_
  refine z_runS X kX8_68 (tX8_isOutside _ _ _) rfl rfl (Nat.le_of_ble_eq_true rfl) ⟨by decide, by decide⟩ ⟨by decide, by decide⟩ dX8_candidates_4 ?_
  rintro _ g1 s1 ⟨rfl, h8, h9⟩
  replace h8 := h8.symm
  subst h8
  replace h9 := h9.symm
  subst h9
  refine z_if_eq (tgt := 20) X dX8_candidates_7 (by decide) (fun c_7 => ?_) (fun c_7 => ?_)
  · skip
    try simp (disch := omega) only [zb_notn, zb_not, zb_n0, zb_0, Bool.not_eq_false, Bool.not_eq_true, Bool.not_eq_true', Bool.not_eq_false', decide_eq_true_eq, decide_eq_false_iff_not, Classical.not_not] at c_7
    refine z_aload_n X dX8_candidates_20 rfl ?_
    refine z_getr2 X fX8_10 (zso_1 hS) (zsr_1_0 hS) rfl dX8_candidates_21 ?_
    refine z_iload_n X dX8_candidates_24 rfl ?_
    obtain ⟨W, hW, rfl⟩ := zwd_of c_7
    refine z_runV X kX8_120 (tX0_search W hS he he2 hC hW) (zso_2 hS) rfl rfl (Nat.le_of_ble_eq_true rfl) ⟨by decide, by decide⟩ ⟨by decide, by decide⟩ dX8_candidates_25 ?_
    rintro _ g1 s3 ⟨rfl, h8, h3, h4⟩
    replace h8 := h8.symm
    subst h8
    refine z_aload_n X dX8_candidates_28 rfl ?_
    refine z_getr2 X fX8_10 (zso_1 hS) (zsr_1_0 hS) rfl dX8_candidates_29 ?_
    refine z_geti X fX8_124 (zso_2 hS) rfl dX8_candidates_32 ?_
    rw [h4.1]
    refine z_rx ?_
    refine z_iret X (by decide) (by decide) rfl dX8_candidates_35 ?_
    exact ⟨by unfold zx_cands; rw [if_neg c_7], rfl, h3, rfl⟩
  · skip
    try simp (disch := omega) only [zb_notn, zb_not, zb_n0, zb_0, Bool.not_eq_false, Bool.not_eq_true, Bool.not_eq_true', Bool.not_eq_false', decide_eq_true_eq, decide_eq_false_iff_not, Classical.not_not] at c_7
    refine z_throw X Y (cls := "java/lang/IllegalArgumentException") (text := "word is out of range") (names := zENs) (by decide +kernel) (by decide +kernel) (z_gd 321 (by decide +kernel) (by decide +kernel)) (z_gd 38 (by decide +kernel) (by decide +kernel)) (List.mem_of_getElem? (i := 558) (by decide +kernel)) zat_IllegalArgumentException dX8_candidates_10 dX8_candidates_13 dX8_candidates_14 dX8_candidates_16 dX8_candidates_19 (by decide) (by decide) (Nat.le_of_ble_eq_true rfl) (Nat.le_of_ble_eq_true rfl) (Nat.le_of_ble_eq_true rfl) (Nat.le_of_ble_eq_true rfl) ?_
    exact ⟨⟨0, by unfold zx_cands; simp_all, rfl⟩, rfl, rfl⟩

abbrev NX8_candidate : zM := (yX8_candidate, cX8_candidate, 3, (some .int), 6, 1, 6, 140)
set_option maxHeartbeats 4000000 in
set_option maxRecDepth 100000 in
theorem tX8_candidate {l : Launch} {D : va_G} {cy : Nat → ClassId} {z0 : zRg} {g : zSh} {σ : zIn} (hfl : l.stackTraces = false) {ne : Nat} (w x : Int32) (hS : zS g) (he : σ 2 5 = nI ne) (he2 : ne ≤ 40) (hC : ∀ k, k < ne → zwd (σ 4 k)) : z_Cx l D cy z0 NX8_candidate [.ref (g.2.1 1), .int w, .int x] g σ (fun v g' σ' => zx_cand w x = 0 ∧ g' = g ∧ zfo σ σ' ∧ ∃ r, v = some (.int r) ∧ (zin x (zcnt (zP (σ 4) ne w) ne) = false ∧ r = -1 ∨ ∃ k, k < ne ∧ zP (σ 4) ne w k ∧ x = nI (zcnt (zP (σ 4) ne w) k) ∧ r = nI k)) (fun E g' σ' => zXk ["java/lang/IndexOutOfBoundsException", "java/lang/IllegalArgumentException"] (zx_cand w x) E ∧ g' = g ∧ σ' = σ) := by
  refine z_ofX hfl (by decide) (z_cr (z_ci (z_ci z_c0))) (Nat.le_of_ble_eq_true rfl) ?_
  intro p e s m args below meth c X Y
  refine z_iload_n X dX8_candidate_0 rfl ?_
  refine z_if_ge (tgt := 14) X dX8_candidate_1 (by decide) (fun c_1 => ?_) (fun c_1 => ?_)
  · skip
    try simp (disch := omega) only [zb_notn, zb_not, zb_n0, zb_0, Bool.not_eq_false, Bool.not_eq_true, Bool.not_eq_true', Bool.not_eq_false', decide_eq_true_eq, decide_eq_false_iff_not, Classical.not_not] at c_1
    refine z_iload_n X dX8_candidate_14 rfl ?_
    refine z_iconst (v := 0) X (by decide) dX8_candidate_15 ?_
    refine z_ldc X qX8_100 dX8_candidate_16 ?_
    refine z_runS X kX8_68 (tX8_isOutside _ _ _) rfl rfl (Nat.le_of_ble_eq_true rfl) ⟨by decide, by decide⟩ ⟨by decide, by decide⟩ dX8_candidate_18 ?_
    rintro _ g1 s1 ⟨rfl, h8, h9⟩
    replace h8 := h8.symm
    subst h8
    replace h9 := h9.symm
    subst h9
    refine z_if_eq (tgt := 34) X dX8_candidate_21 (by decide) (fun c_21 => ?_) (fun c_21 => ?_)
    · skip
      try simp (disch := omega) only [zb_notn, zb_not, zb_n0, zb_0, Bool.not_eq_false, Bool.not_eq_true, Bool.not_eq_true', Bool.not_eq_false', decide_eq_true_eq, decide_eq_false_iff_not, Classical.not_not] at c_21
      refine z_aload_n X dX8_candidate_34 rfl ?_
      refine z_getr2 X fX8_10 (zso_1 hS) (zsr_1_0 hS) rfl dX8_candidate_35 ?_
      refine z_iload_n X dX8_candidate_38 rfl ?_
      obtain ⟨W, hW, rfl⟩ := zwd_of c_21
      refine z_runV X kX8_120 (tX0_search W hS he he2 hC hW) (zso_2 hS) rfl rfl (Nat.le_of_ble_eq_true rfl) ⟨by decide, by decide⟩ ⟨by decide, by decide⟩ dX8_candidate_39 ?_
      rintro _ g1 s3 ⟨rfl, h8, h3, h4⟩
      replace h8 := h8.symm
      subst h8
      refine z_aload_n X dX8_candidate_42 rfl ?_
      refine z_getr2 X fX8_10 (zso_1 hS) (zsr_1_0 hS) rfl dX8_candidate_43 ?_
      refine z_iload_n X dX8_candidate_46 rfl ?_
      refine z_runV X kX8_129 (tX0_findAt x hS h4.1 (zcnt_le40 he2)) (zso_2 hS) rfl rfl (Nat.le_of_ble_eq_true rfl) ⟨by decide, by decide⟩ ⟨by decide, by decide⟩ dX8_candidate_47 ?_
      rintro _ g1 s1 ⟨rfl, h8, h9⟩
      replace h8 := h8.symm
      subst h8
      replace h9 := h9.symm
      subst h9
      refine z_rx ?_
      refine z_iret X (by decide) (by decide) rfl dX8_candidate_50 ?_
      refine ⟨by unfold zx_cand; rw [if_neg (by simp_all), if_neg c_21], rfl, h3, _, rfl, ?_⟩
      cases hz : zin x (zcnt (zP (σ 4) ne (nI W)) ne)
      · exact Or.inl ⟨rfl, by simp⟩
      · obtain ⟨j, hj, rfl⟩ := zin_t hz (Nat.lt_of_le_of_lt (zcnt_le40 he2) (by decide))
        obtain ⟨k, hk, hp, hkk⟩ := zcnt_sur hj
        refine Or.inr ⟨k, hk, hp, by rw [hkk], ?_⟩
        rw [if_pos rfl, nI_clamp (Nat.lt_trans (Nat.lt_of_lt_of_le hj (zcnt_le40 he2)) (by decide)), ← hkk, h4.2 k hk hp]
    · skip
      try simp (disch := omega) only [zb_notn, zb_not, zb_n0, zb_0, Bool.not_eq_false, Bool.not_eq_true, Bool.not_eq_true', Bool.not_eq_false', decide_eq_true_eq, decide_eq_false_iff_not, Classical.not_not] at c_21
      refine z_throw X Y (cls := "java/lang/IllegalArgumentException") (text := "word is out of range") (names := zENs) (by decide +kernel) (by decide +kernel) (z_gd 321 (by decide +kernel) (by decide +kernel)) (z_gd 38 (by decide +kernel) (by decide +kernel)) (List.mem_of_getElem? (i := 558) (by decide +kernel)) zat_IllegalArgumentException dX8_candidate_24 dX8_candidate_27 dX8_candidate_28 dX8_candidate_30 dX8_candidate_33 (by decide) (by decide) (Nat.le_of_ble_eq_true rfl) (Nat.le_of_ble_eq_true rfl) (Nat.le_of_ble_eq_true rfl) (Nat.le_of_ble_eq_true rfl) ?_
      exact ⟨⟨1, by unfold zx_cand; simp_all, rfl⟩, rfl, rfl⟩
  · skip
    try simp (disch := omega) only [zb_notn, zb_not, zb_n0, zb_0, Bool.not_eq_false, Bool.not_eq_true, Bool.not_eq_true', Bool.not_eq_false', decide_eq_true_eq, decide_eq_false_iff_not, Classical.not_not] at c_1
    refine z_throw X Y (cls := "java/lang/IndexOutOfBoundsException") (text := "place is below 0") (names := zENs) (by decide +kernel) (by decide +kernel) (z_gd 248 (by decide +kernel) (by decide +kernel)) (z_gd 40 (by decide +kernel) (by decide +kernel)) (List.mem_of_getElem? (i := 583) (by decide +kernel)) zat_IndexOutOfBoundsException dX8_candidate_4 dX8_candidate_7 dX8_candidate_8 dX8_candidate_10 dX8_candidate_13 (by decide) (by decide) (Nat.le_of_ble_eq_true rfl) (Nat.le_of_ble_eq_true rfl) (Nat.le_of_ble_eq_true rfl) (Nat.le_of_ble_eq_true rfl) ?_
    exact ⟨⟨0, by unfold zx_cand; simp_all, rfl⟩, rfl, rfl⟩

set_option maxHeartbeats 4000000 in
set_option maxRecDepth 100000 in
theorem tX4_addOfficeF {l : Launch} {D : va_G} {cy : Nat → ClassId} {z0 : zRg} {g : zSh} {σ : zIn}  (hS : zS g) (hno : σ 13 4 = nI 8) : z_Ct l D cy z0 MX4_addOffice [.ref (g.2.1 13)] g σ (zI (-1) g σ) := by
  refine z_ofM (by decide) (z_cr z_c0) (Nat.le_of_ble_eq_true rfl) ?_
  intro p e s m args below meth c X
  refine z_aload_n X dX4_addOffice_0 rfl ?_
  refine z_geti X fX4_30 (zso_13 hS) rfl dX4_addOffice_1 ?_
  try simp (disch := omega) only [z_up_app, z_put_app, reduceIte, Nat.reduceEqDiff, hno]
  refine z_aload_n X dX4_addOffice_4 rfl ?_
  refine z_getr2 X fX4_11 (zso_13 hS) (zsr_13_0 hS) rfl dX4_addOffice_5 ?_
  refine z_alen X (t := 5) (by decide) (zsa_14 hS) dX4_addOffice_8 ?_
  refine z_icmp_lt (tgt := 14) X dX4_addOffice_9 (by decide) (fun c_9 => ?_) (fun c_9 => ?_)
  · skip
    try simp (disch := omega) only [zk0, nI_leI, nI_ltI, nI_eq, zbk_notn, zbk_not, zbk_n0, zbk_0, zb_0, zb_n0, zb_not, zb_notn, Bool.not_eq_false, Bool.not_eq_true, Bool.not_eq_true', Bool.not_eq_false', decide_eq_true_eq, decide_eq_false_iff_not, Classical.not_not] at c_9
    omega
  · skip
    try simp (disch := omega) only [zk0, nI_leI, nI_ltI, nI_eq, zbk_notn, zbk_not, zbk_n0, zbk_0, zb_0, zb_n0, zb_not, zb_notn, Bool.not_eq_false, Bool.not_eq_true, Bool.not_eq_true', Bool.not_eq_false', decide_eq_true_eq, decide_eq_false_iff_not, Classical.not_not] at c_9
    refine z_iconst (v := -1) X (by decide) dX4_addOffice_12 ?_
    refine z_iret X (by decide) (by decide) rfl dX4_addOffice_13 ?_
    exact zI_e rfl rfl rfl

set_option maxHeartbeats 4000000 in
set_option maxRecDepth 100000 in
theorem tX4_addCableF {l : Launch} {D : va_G} {cy : Nat → ClassId} {z0 : zRg} {g : zSh} {σ : zIn} (x1 x2 x3 x4 : Int32) (hS : zS g) (hnc : σ 13 5 = nI 12) : z_Ct l D cy z0 MX4_addCable [.ref (g.2.1 13), .int x1, .int x2, .int x3, .int x4] g σ (zI (-1) g σ) := by
  refine z_ofM (by decide) (z_cr (z_ci (z_ci (z_ci (z_ci z_c0))))) (Nat.le_of_ble_eq_true rfl) ?_
  intro p e s m args below meth c X
  refine z_aload_n X dX4_addCable_0 rfl ?_
  refine z_geti X fX4_34 (zso_13 hS) rfl dX4_addCable_1 ?_
  try simp (disch := omega) only [z_up_app, z_put_app, reduceIte, Nat.reduceEqDiff, hnc]
  refine z_aload_n X dX4_addCable_4 rfl ?_
  refine z_getr2 X fX4_19 (zso_13 hS) (zsr_13_1 hS) rfl dX4_addCable_5 ?_
  refine z_alen X (t := 3) (by decide) (zsa_15 hS) dX4_addCable_8 ?_
  refine z_icmp_lt (tgt := 14) X dX4_addCable_9 (by decide) (fun c_9 => ?_) (fun c_9 => ?_)
  · skip
    try simp (disch := omega) only [zk0, nI_leI, nI_ltI, nI_eq, zbk_notn, zbk_not, zbk_n0, zbk_0, zb_0, zb_n0, zb_not, zb_notn, Bool.not_eq_false, Bool.not_eq_true, Bool.not_eq_true', Bool.not_eq_false', decide_eq_true_eq, decide_eq_false_iff_not, Classical.not_not] at c_9
    omega
  · skip
    try simp (disch := omega) only [zk0, nI_leI, nI_ltI, nI_eq, zbk_notn, zbk_not, zbk_n0, zbk_0, zb_0, zb_n0, zb_not, zb_notn, Bool.not_eq_false, Bool.not_eq_true, Bool.not_eq_true', Bool.not_eq_false', decide_eq_true_eq, decide_eq_false_iff_not, Classical.not_not] at c_9
    refine z_iconst (v := -1) X (by decide) dX4_addCable_12 ?_
    refine z_iret X (by decide) (by decide) rfl dX4_addCable_13 ?_
    exact zI_e rfl rfl rfl

abbrev NX8_office : zM := (yX8_office, cX8_office, 2, (some .int), 6, 3, 23, 140)
set_option maxHeartbeats 4000000 in
set_option maxRecDepth 100000 in
theorem tX8_office {l : Launch} {D : va_G} {cy : Nat → ClassId} {z0 : zRg} {g : zSh} {σ : zIn} (hfl : l.stackTraces = false) {no : Nat} (hS : zS g) (hO : zO g no) (hno : σ 13 4 = nI no) (hw : z_wf g) (hni : 100 + no ∉ g.1) (hri : 110 + no ∉ g.1) : z_Cx l D cy z0 NX8_office [.ref (g.2.1 1)] g σ (fun v g' σ' => zx_office no = 0 ∧ v = some (.int (nI no)) ∧ ∃ a b, g' = z_gr (z_gr (z_add (z_add g (100 + no) a 5 0) (110 + no) b 11 13) (100 + no) 0 (110 + no)) 14 no (100 + no) ∧ σ' = z_up (z_up (z_up (z_up (z_zero (z_zero σ (100 + no)) (110 + no)) (100 + no) 1 0) (100 + no) 2 0) (100 + no) 3 0) 13 4 (nI (no + 1))) (fun E g' σ' => zXk ["java/lang/IllegalStateException"] (zx_office no) E ∧ g' = g ∧ σ' = σ) := by
  have hn8 := hO.1
  refine z_ofX hfl (by decide) (z_cr z_c0) (Nat.le_of_ble_eq_true rfl) ?_
  intro p e s m args below meth c X Y
  refine z_aload_n X dX8_office_0 rfl ?_
  refine z_getr2 X fX8_35 (zso_1 hS) (zsr_1_3 hS) rfl dX8_office_1 ?_
  rcases Nat.lt_or_ge no 8 with h8 | h8
  · skip
    skip
    refine z_runV X kX8_132 (tX4_addOffice hS hO hno h8 hw hni hri) (zso_13 hS) rfl rfl (Nat.le_of_ble_eq_true rfl) ⟨by decide, by decide⟩ ⟨by decide, by decide⟩ dX8_office_4 ?_
    rintro _ g2 s2 ⟨rfl, a9, b9, hg, hs⟩
    refine z_istore_n X dX8_office_7 (by decide) ?_
    refine z_iload_n X dX8_office_8 rfl ?_
    refine z_iconst (v := -1) X (by decide) dX8_office_9 ?_
    refine z_icmp_ne (tgt := 23) X dX8_office_10 (by decide) (fun c_10 => ?_) (fun c_10 => ?_)
    · skip
      try simp (disch := omega) only [zb_notn, zb_not, zb_n0, zb_0, Bool.not_eq_false, Bool.not_eq_true, Bool.not_eq_true', Bool.not_eq_false', decide_eq_true_eq, decide_eq_false_iff_not, Classical.not_not] at c_10
      refine z_iload_n X dX8_office_23 rfl ?_
      refine z_rx ?_
      refine z_iret X (by decide) (by decide) rfl dX8_office_24 ?_
      exact ⟨by unfold zx_office; rw [if_neg (by omega)], rfl, a9, b9, hg, hs⟩
    · exact absurd c_10 (nI_ne_m1 (by omega))
  · skip
    obtain rfl : no = 8 := by omega
    refine z_runV X kX8_132 (tX4_addOfficeF hS hno) (zso_13 hS) rfl rfl (Nat.le_of_ble_eq_true rfl) ⟨by decide, by decide⟩ ⟨by decide, by decide⟩ dX8_office_4 ?_
    rintro _ g1 s1 ⟨rfl, h8, h9⟩
    replace h8 := h8.symm
    subst h8
    replace h9 := h9.symm
    subst h9
    refine z_istore_n X dX8_office_7 (by decide) ?_
    refine z_iload_n X dX8_office_8 rfl ?_
    refine z_iconst (v := -1) X (by decide) dX8_office_9 ?_
    refine z_icmp_ne (tgt := 23) X dX8_office_10 (by decide) (fun c_10 => ?_) (fun c_10 => ?_)
    · exact absurd rfl c_10
    · skip
      try simp (disch := omega) only [zb_notn, zb_not, zb_n0, zb_0, Bool.not_eq_false, Bool.not_eq_true, Bool.not_eq_true', Bool.not_eq_false', decide_eq_true_eq, decide_eq_false_iff_not, Classical.not_not] at c_10
      refine z_throw X Y (cls := "java/lang/IllegalStateException") (text := "there are 8 offices") (names := zENs) (by decide +kernel) (by decide +kernel) (z_gd 559 (by decide +kernel) (by decide +kernel)) (z_gd 39 (by decide +kernel) (by decide +kernel)) (List.mem_of_getElem? (i := 615) (by decide +kernel)) zat_IllegalStateException dX8_office_13 dX8_office_16 dX8_office_17 dX8_office_19 dX8_office_22 (by decide) (by decide) (Nat.le_of_ble_eq_true rfl) (Nat.le_of_ble_eq_true rfl) (Nat.le_of_ble_eq_true rfl) (Nat.le_of_ble_eq_true rfl) ?_
      exact ⟨⟨0, by unfold zx_office; simp_all, rfl⟩, rfl, rfl⟩

abbrev NX8_cable : zM := (yX8_cable, cX8_cable, 6, (some .int), 6, 2, 12, 140)
set_option maxHeartbeats 4000000 in
set_option maxRecDepth 100000 in
theorem tX8_cable {l : Launch} {D : va_G} {cy : Nat → ClassId} {z0 : zRg} {g : zSh} {σ : zIn} (hfl : l.stackTraces = false) {no nc : Nat} (x1 x2 x3 x4 : Int32) (hS : zS g) (hO : zO g no) (hno : σ 13 4 = nI no) (hK : zC g nc) (hnc : σ 13 5 = nI nc) (hw : z_wf g) (hni : 120 + nc ∉ g.1) : z_Cx l D cy z0 NX8_cable [.ref (g.2.1 1), .int x1, .int x2, .int x3, .int x4] g σ (fun v g' σ' => zx_cable no nc x1 x2 x3 x4 = 0 ∧ v = some (.int (nI nc)) ∧ ∃ a, g' = z_gr (z_add g (120 + nc) a 1 0) 15 nc (120 + nc) ∧ σ' = z_up (z_up (z_up (z_up (z_up (z_up (z_up (z_zero σ (120 + nc)) (120 + nc) 0 x1) (120 + nc) 1 x2) (120 + nc) 2 x3) (120 + nc) 3 x4) (120 + nc) 4 0) (120 + nc) 5 0) 13 5 (nI (nc + 1))) (fun E g' σ' => zXk ["java/lang/IndexOutOfBoundsException", "java/lang/IllegalArgumentException", "java/lang/IllegalStateException"] (zx_cable no nc x1 x2 x3 x4) E ∧ g' = g ∧ σ' = σ) := by
  have hn12 := hK.1
  refine z_ofX hfl (by decide) (z_cr (z_ci (z_ci (z_ci (z_ci z_c0))))) (Nat.le_of_ble_eq_true rfl) ?_
  intro p e s m args below meth c X Y
  refine z_aload_n X dX8_cable_0 rfl ?_
  refine z_getr2 X fX8_35 (zso_1 hS) (zsr_1_3 hS) rfl dX8_cable_1 ?_
  refine z_iload_n X dX8_cable_4 rfl ?_
  cases hz1 : zin x1 no
  · skip
    skip
    refine z_runV X kX8_138 (tX4_officeAtN x1 hS hO hno hz1) (zso_13 hS) rfl rfl (Nat.le_of_ble_eq_true rfl) ⟨by decide, by decide⟩ ⟨by decide, by decide⟩ dX8_cable_5 ?_
    rintro _ g1 s1 ⟨rfl, h8, h9⟩
    replace h8 := h8.symm
    subst h8
    replace h9 := h9.symm
    subst h9
    refine z_ifnullN (tgt := 22) X dX8_cable_8 (by decide) ?_
    refine z_throw X Y (cls := "java/lang/IndexOutOfBoundsException") (text := "no such office") (names := zENs) (by decide +kernel) (by decide +kernel) (z_gd 248 (by decide +kernel) (by decide +kernel)) (z_gd 40 (by decide +kernel) (by decide +kernel)) (List.mem_of_getElem? (i := 410) (by decide +kernel)) zat_IndexOutOfBoundsException dX8_cable_22 dX8_cable_25 dX8_cable_26 dX8_cable_28 dX8_cable_31 (by decide) (by decide) (Nat.le_of_ble_eq_true rfl) (Nat.le_of_ble_eq_true rfl) (Nat.le_of_ble_eq_true rfl) (Nat.le_of_ble_eq_true rfl) ?_
    exact ⟨⟨0, by unfold zx_cable; simp_all, rfl⟩, rfl, rfl⟩
  · skip
    obtain ⟨o1, ho19, rfl⟩ := zin_t hz1 (by have := hO.1; omega)
    have hF1 := hO.2.1 o1 ho19
    refine z_runV X kX8_138 (tX4_officeAt o1 hS hO hno ho19) (zso_13 hS) rfl rfl (Nat.le_of_ble_eq_true rfl) ⟨by decide, by decide⟩ ⟨by decide, by decide⟩ dX8_cable_5 ?_
    rintro _ g1 s1 ⟨rfl, h8, h9⟩
    replace h8 := h8.symm
    subst h8
    replace h9 := h9.symm
    subst h9
    refine z_ifnull X dX8_cable_8 ?_
    refine z_aload_n X dX8_cable_11 rfl ?_
    refine z_getr2 X fX8_35 (zso_1 hS) (zsr_1_3 hS) rfl dX8_cable_12 ?_
    refine z_iload_n X dX8_cable_15 rfl ?_
    cases hz2 : zin x2 no
    · skip
      skip
      refine z_runV X kX8_138 (tX4_officeAtN x2 hS hO hno hz2) (zso_13 hS) rfl rfl (Nat.le_of_ble_eq_true rfl) ⟨by decide, by decide⟩ ⟨by decide, by decide⟩ dX8_cable_16 ?_
      rintro _ g1 s1 ⟨rfl, h8, h9⟩
      replace h8 := h8.symm
      subst h8
      replace h9 := h9.symm
      subst h9
      refine z_ifnonnullN X dX8_cable_19 ?_
      refine z_throw X Y (cls := "java/lang/IndexOutOfBoundsException") (text := "no such office") (names := zENs) (by decide +kernel) (by decide +kernel) (z_gd 248 (by decide +kernel) (by decide +kernel)) (z_gd 40 (by decide +kernel) (by decide +kernel)) (List.mem_of_getElem? (i := 410) (by decide +kernel)) zat_IndexOutOfBoundsException dX8_cable_22 dX8_cable_25 dX8_cable_26 dX8_cable_28 dX8_cable_31 (by decide) (by decide) (Nat.le_of_ble_eq_true rfl) (Nat.le_of_ble_eq_true rfl) (Nat.le_of_ble_eq_true rfl) (Nat.le_of_ble_eq_true rfl) ?_
      exact ⟨⟨0, by unfold zx_cable; simp_all, rfl⟩, rfl, rfl⟩
    · skip
      obtain ⟨o2, ho29, rfl⟩ := zin_t hz2 (by have := hO.1; omega)
      have hF2 := hO.2.1 o2 ho29
      refine z_runV X kX8_138 (tX4_officeAt o2 hS hO hno ho29) (zso_13 hS) rfl rfl (Nat.le_of_ble_eq_true rfl) ⟨by decide, by decide⟩ ⟨by decide, by decide⟩ dX8_cable_16 ?_
      rintro _ g1 s1 ⟨rfl, h8, h9⟩
      replace h8 := h8.symm
      subst h8
      replace h9 := h9.symm
      subst h9
      refine z_ifnonnull (tgt := 32) X dX8_cable_19 (by decide) ?_
      refine z_iload_n X dX8_cable_32 rfl ?_
      refine z_iload_n X dX8_cable_33 rfl ?_
      refine z_icmp_eq (tgt := 58) X dX8_cable_34 (by decide) (fun c_34 => ?_) (fun c_34 => ?_)
      · skip
        try simp (disch := omega) only [zb_notn, zb_not, zb_n0, zb_0, Bool.not_eq_false, Bool.not_eq_true, Bool.not_eq_true', Bool.not_eq_false', decide_eq_true_eq, decide_eq_false_iff_not, Classical.not_not] at c_34
        refine z_throw X Y (cls := "java/lang/IllegalArgumentException") (text := "both offices are one, or rate or words is out of range") (names := zENs) (by decide +kernel) (by decide +kernel) (z_gd 321 (by decide +kernel) (by decide +kernel)) (z_gd 38 (by decide +kernel) (by decide +kernel)) (List.mem_of_getElem? (i := 620) (by decide +kernel)) zat_IllegalArgumentException dX8_cable_58 dX8_cable_61 dX8_cable_62 dX8_cable_64 dX8_cable_67 (by decide) (by decide) (Nat.le_of_ble_eq_true rfl) (Nat.le_of_ble_eq_true rfl) (Nat.le_of_ble_eq_true rfl) (Nat.le_of_ble_eq_true rfl) ?_
        exact ⟨⟨1, by unfold zx_cable; simp_all, rfl⟩, rfl, rfl⟩
      · skip
        try simp (disch := omega) only [zb_notn, zb_not, zb_n0, zb_0, Bool.not_eq_false, Bool.not_eq_true, Bool.not_eq_true', Bool.not_eq_false', decide_eq_true_eq, decide_eq_false_iff_not, Classical.not_not] at c_34
        refine z_iload_n X dX8_cable_37 rfl ?_
        refine z_iconst (v := 1) X (by decide) dX8_cable_38 ?_
        refine z_bipush (v := 100) X (by decide) dX8_cable_39 ?_
        refine z_runS X kX8_68 (tX8_isOutside _ _ _) rfl rfl (Nat.le_of_ble_eq_true rfl) ⟨by decide, by decide⟩ ⟨by decide, by decide⟩ dX8_cable_41 ?_
        rintro _ g1 s1 ⟨rfl, h8, h9⟩
        replace h8 := h8.symm
        subst h8
        replace h9 := h9.symm
        subst h9
        refine z_if_ne (tgt := 58) X dX8_cable_44 (by decide) (fun c_44 => ?_) (fun c_44 => ?_)
        · skip
          try simp (disch := omega) only [zb_notn, zb_not, zb_n0, zb_0, Bool.not_eq_false, Bool.not_eq_true, Bool.not_eq_true', Bool.not_eq_false', decide_eq_true_eq, decide_eq_false_iff_not, Classical.not_not] at c_44
          refine z_throw X Y (cls := "java/lang/IllegalArgumentException") (text := "both offices are one, or rate or words is out of range") (names := zENs) (by decide +kernel) (by decide +kernel) (z_gd 321 (by decide +kernel) (by decide +kernel)) (z_gd 38 (by decide +kernel) (by decide +kernel)) (List.mem_of_getElem? (i := 620) (by decide +kernel)) zat_IllegalArgumentException dX8_cable_58 dX8_cable_61 dX8_cable_62 dX8_cable_64 dX8_cable_67 (by decide) (by decide) (Nat.le_of_ble_eq_true rfl) (Nat.le_of_ble_eq_true rfl) (Nat.le_of_ble_eq_true rfl) (Nat.le_of_ble_eq_true rfl) ?_
          exact ⟨⟨1, by unfold zx_cable; simp_all, rfl⟩, rfl, rfl⟩
        · skip
          try simp (disch := omega) only [zb_notn, zb_not, zb_n0, zb_0, Bool.not_eq_false, Bool.not_eq_true, Bool.not_eq_true', Bool.not_eq_false', decide_eq_true_eq, decide_eq_false_iff_not, Classical.not_not] at c_44
          refine z_iload X dX8_cable_47 rfl ?_
          refine z_iconst (v := 1) X (by decide) dX8_cable_49 ?_
          refine z_bipush (v := 20) X (by decide) dX8_cable_50 ?_
          refine z_runS X kX8_68 (tX8_isOutside _ _ _) rfl rfl (Nat.le_of_ble_eq_true rfl) ⟨by decide, by decide⟩ ⟨by decide, by decide⟩ dX8_cable_52 ?_
          rintro _ g1 s1 ⟨rfl, h8, h9⟩
          replace h8 := h8.symm
          subst h8
          replace h9 := h9.symm
          subst h9
          refine z_if_eq (tgt := 68) X dX8_cable_55 (by decide) (fun c_55 => ?_) (fun c_55 => ?_)
          · skip
            try simp (disch := omega) only [zb_notn, zb_not, zb_n0, zb_0, Bool.not_eq_false, Bool.not_eq_true, Bool.not_eq_true', Bool.not_eq_false', decide_eq_true_eq, decide_eq_false_iff_not, Classical.not_not] at c_55
            refine z_aload_n X dX8_cable_68 rfl ?_
            refine z_getr2 X fX8_35 (zso_1 hS) (zsr_1_3 hS) rfl dX8_cable_69 ?_
            refine z_iload_n X dX8_cable_72 rfl ?_
            refine z_iload_n X dX8_cable_73 rfl ?_
            refine z_iload_n X dX8_cable_74 rfl ?_
            refine z_iload X dX8_cable_75 rfl ?_
            rcases Nat.lt_or_ge nc 12 with h12 | h12
            · skip
              skip
              refine z_runV X kX8_146 (tX4_addCable _ _ _ _ hS hK hnc h12 hw hni) (zso_13 hS) rfl rfl (Nat.le_of_ble_eq_true rfl) ⟨by decide, by decide⟩ ⟨by decide, by decide⟩ dX8_cable_77 ?_
              rintro _ g2 s2 ⟨rfl, a9, hg, hs⟩
              refine z_istore X dX8_cable_80 (by decide) ?_
              refine z_iload X dX8_cable_82 rfl ?_
              refine z_iconst (v := -1) X (by decide) dX8_cable_84 ?_
              refine z_icmp_ne (tgt := 98) X dX8_cable_85 (by decide) (fun c_85 => ?_) (fun c_85 => ?_)
              · skip
                try simp (disch := omega) only [zb_notn, zb_not, zb_n0, zb_0, Bool.not_eq_false, Bool.not_eq_true, Bool.not_eq_true', Bool.not_eq_false', decide_eq_true_eq, decide_eq_false_iff_not, Classical.not_not] at c_85
                refine z_iload X dX8_cable_98 rfl ?_
                refine z_rx ?_
                refine z_iret X (by decide) (by decide) rfl dX8_cable_100 ?_
                exact ⟨by unfold zx_cable; rw [if_neg (by simp_all), if_neg (by simp_all), if_neg (by omega)], rfl, a9, hg, hs⟩
              · exact absurd c_85 (nI_ne_m1 (by omega))
            · skip
              obtain rfl : nc = 12 := by omega
              refine z_runV X kX8_146 (tX4_addCableF _ _ _ _ hS hnc) (zso_13 hS) rfl rfl (Nat.le_of_ble_eq_true rfl) ⟨by decide, by decide⟩ ⟨by decide, by decide⟩ dX8_cable_77 ?_
              rintro _ g1 s1 ⟨rfl, h8, h9⟩
              replace h8 := h8.symm
              subst h8
              replace h9 := h9.symm
              subst h9
              refine z_istore X dX8_cable_80 (by decide) ?_
              refine z_iload X dX8_cable_82 rfl ?_
              refine z_iconst (v := -1) X (by decide) dX8_cable_84 ?_
              refine z_icmp_ne (tgt := 98) X dX8_cable_85 (by decide) (fun c_85 => ?_) (fun c_85 => ?_)
              · exact absurd rfl c_85
              · skip
                try simp (disch := omega) only [zb_notn, zb_not, zb_n0, zb_0, Bool.not_eq_false, Bool.not_eq_true, Bool.not_eq_true', Bool.not_eq_false', decide_eq_true_eq, decide_eq_false_iff_not, Classical.not_not] at c_85
                refine z_throw X Y (cls := "java/lang/IllegalStateException") (text := "there are 12 cables") (names := zENs) (by decide +kernel) (by decide +kernel) (z_gd 559 (by decide +kernel) (by decide +kernel)) (z_gd 39 (by decide +kernel) (by decide +kernel)) (List.mem_of_getElem? (i := 659) (by decide +kernel)) zat_IllegalStateException dX8_cable_88 dX8_cable_91 dX8_cable_92 dX8_cable_94 dX8_cable_97 (by decide) (by decide) (Nat.le_of_ble_eq_true rfl) (Nat.le_of_ble_eq_true rfl) (Nat.le_of_ble_eq_true rfl) (Nat.le_of_ble_eq_true rfl) ?_
                exact ⟨⟨2, by unfold zx_cable; simp_all, rfl⟩, rfl, rfl⟩
          · skip
            try simp (disch := omega) only [zb_notn, zb_not, zb_n0, zb_0, Bool.not_eq_false, Bool.not_eq_true, Bool.not_eq_true', Bool.not_eq_false', decide_eq_true_eq, decide_eq_false_iff_not, Classical.not_not] at c_55
            refine z_throw X Y (cls := "java/lang/IllegalArgumentException") (text := "both offices are one, or rate or words is out of range") (names := zENs) (by decide +kernel) (by decide +kernel) (z_gd 321 (by decide +kernel) (by decide +kernel)) (z_gd 38 (by decide +kernel) (by decide +kernel)) (List.mem_of_getElem? (i := 620) (by decide +kernel)) zat_IllegalArgumentException dX8_cable_58 dX8_cable_61 dX8_cable_62 dX8_cable_64 dX8_cable_67 (by decide) (by decide) (Nat.le_of_ble_eq_true rfl) (Nat.le_of_ble_eq_true rfl) (Nat.le_of_ble_eq_true rfl) (Nat.le_of_ble_eq_true rfl) ?_
            exact ⟨⟨1, by unfold zx_cable; simp_all, rfl⟩, rfl, rfl⟩

theorem zcab_up4 {σ : zIn} {c : Nat} {y : Int32} (hc : c < 12) (m : Nat) : zcab (z_up σ (120 + c) 4 y) m = zcab σ m := by
  unfold zcab
  simp (disch := omega) only [z_up_ne]
theorem zLg_up {g : zSh} {σ : zIn} {nm c : Nat} {y : Int32} (hc : c < 12) (h : zLg g σ nm) : zLg g (z_up σ (120 + c) 4 y) nm := by
  intro m hm
  simp (disch := omega) only [z_up_ne]
  exact h m hm
abbrev NX8_broken : zM := (yX8_broken, cX8_broken, 4, (some .int), 6, 1, 6, 140)
set_option maxHeartbeats 4000000 in
set_option maxRecDepth 100000 in
theorem tX8_broken {l : Launch} {D : va_G} {cy : Nat → ClassId} {z0 : zRg} {g : zSh} {σ : zIn} (hfl : l.stackTraces = false) {nc nm : Nat} (x y : Int32) (hS : zS g) (hK : zC g nc) (hnc : σ 13 5 = nI nc) (hG : zG g nm) (hnm : σ 1 8 = nI nm) (hLg : zLg g σ nm) (hy : y = 0 ∨ y = 1) : z_Cx l D cy z0 NX8_broken [.ref (g.2.1 1), .int x, .int y] g σ (fun v g' σ' => zx_in nc x = 0 ∧ g' = g ∧ ∃ c, c < nc ∧ x = nI c ∧ σ' = z_up σ (120 + c) 4 y ∧ v = some (.int (nI (zcnt (fun m => zcab σ m = nI c) nm)))) (fun E g' σ' => zXk ["java/lang/IndexOutOfBoundsException"] (zx_in nc x) E ∧ g' = g ∧ σ' = σ) := by
  have hn12 := hK.1
  have hn60 := hG.1
  refine z_ofX hfl (by decide) (z_cr (z_ci (z_ci z_c0))) (Nat.le_of_ble_eq_true rfl) ?_
  intro p e s m args below meth c X Y
  refine z_aload_n X dX8_broken_0 rfl ?_
  refine z_getr2 X fX8_35 (zso_1 hS) (zsr_1_3 hS) rfl dX8_broken_1 ?_
  refine z_iload_n X dX8_broken_4 rfl ?_
  cases hz : zin x nc
  · skip
    skip
    refine z_runV X kX8_152 (tX4_cableAtN x hS hK hnc hz) (zso_13 hS) rfl rfl (Nat.le_of_ble_eq_true rfl) ⟨by decide, by decide⟩ ⟨by decide, by decide⟩ dX8_broken_5 ?_
    rintro _ g1 s1 ⟨rfl, h8, h9⟩
    replace h8 := h8.symm
    subst h8
    replace h9 := h9.symm
    subst h9
    refine z_astore_nN X dX8_broken_8 (by decide) ?_
    refine z_aload_nN X dX8_broken_9 rfl ?_
    refine z_ifnonnullN X dX8_broken_10 ?_
    refine z_throw X Y (cls := "java/lang/IndexOutOfBoundsException") (text := "no such cable") (names := zENs) (by decide +kernel) (by decide +kernel) (z_gd 248 (by decide +kernel) (by decide +kernel)) (z_gd 40 (by decide +kernel) (by decide +kernel)) (List.mem_of_getElem? (i := 668) (by decide +kernel)) zat_IndexOutOfBoundsException dX8_broken_13 dX8_broken_16 dX8_broken_17 dX8_broken_19 dX8_broken_22 (by decide) (by decide) (Nat.le_of_ble_eq_true rfl) (Nat.le_of_ble_eq_true rfl) (Nat.le_of_ble_eq_true rfl) (Nat.le_of_ble_eq_true rfl) ?_
    exact ⟨⟨0, by unfold zx_in; simp_all, rfl⟩, rfl, rfl⟩
  · skip
    obtain ⟨c1, hc19, rfl⟩ := zin_t hz (by have := hK.1; omega)
    have hC9 := hK.2.1 c1 hc19
    refine z_runV X kX8_152 (tX4_cableAt c1 hS hK hnc hc19) (zso_13 hS) rfl rfl (Nat.le_of_ble_eq_true rfl) ⟨by decide, by decide⟩ ⟨by decide, by decide⟩ dX8_broken_5 ?_
    rintro _ g1 s1 ⟨rfl, h8, h9⟩
    replace h8 := h8.symm
    subst h8
    replace h9 := h9.symm
    subst h9
    refine z_astore_n X dX8_broken_8 (by decide) ?_
    refine z_aload_n X dX8_broken_9 rfl ?_
    refine z_ifnonnull (tgt := 23) X dX8_broken_10 (by decide) ?_
    refine z_aload_n X dX8_broken_23 rfl ?_
    refine z_iload_n X dX8_broken_24 rfl ?_
    refine z_putz X fX8_158 (hC9.1) hy rfl dX8_broken_25 ?_
    refine z_aload_n X dX8_broken_28 rfl ?_
    refine z_iload_n X dX8_broken_29 rfl ?_
    refine z_runV X kX8_164 (tX8_countAtCable (nm := nm) _ hS hG (by rw [z_up_ne (by omega)]; exact hnm) (zLg_up (by omega) hLg)) (zso_1 hS) rfl rfl (Nat.le_of_ble_eq_true rfl) ⟨by decide, by decide⟩ ⟨by decide, by decide⟩ dX8_broken_30 ?_
    rintro _ g1 s1 ⟨rfl, h8, h9⟩
    replace h8 := h8.symm
    subst h8
    replace h9 := h9.symm
    subst h9
    refine z_rx ?_
    refine z_iret X (by decide) (by decide) rfl dX8_broken_33 ?_
    exact ⟨by unfold zx_in; rw [if_pos hz], rfl, c1, hc19, rfl, rfl, by simp only [zcab_up4 (show c1 < 12 by omega)]⟩

abbrev NX8_forbid : zM := (yX8_forbid, cX8_forbid, 5, (some .boolean), 6, 1, 6, 140)
set_option maxHeartbeats 4000000 in
set_option maxRecDepth 100000 in
theorem tX8_forbid {l : Launch} {D : va_G} {cy : Nat → ClassId} {z0 : zRg} {g : zSh} {σ : zIn} (hfl : l.stackTraces = false) {no : Nat} (x y : Int32) (hS : zS g) (hO : zO g no) (hno : σ 13 4 = nI no) (hy : y = 0 ∨ y = 1) (hfb : ∀ o, o < no → σ (100 + o) 2 = 0 ∨ σ (100 + o) 2 = 1) : z_Cx l D cy z0 NX8_forbid [.ref (g.2.1 1), .int x, .int y] g σ (fun v g' σ' => zx_in no x = 0 ∧ g' = g ∧ ∃ o, o < no ∧ x = nI o ∧ σ' = z_up σ (100 + o) 2 y ∧ v = some (.int (σ (100 + o) 2))) (fun E g' σ' => zXk ["java/lang/IndexOutOfBoundsException"] (zx_in no x) E ∧ g' = g ∧ σ' = σ) := by
  have hn8 := hO.1
  refine z_ofX hfl (by decide) (z_cr (z_ci (z_ci z_c0))) (Nat.le_of_ble_eq_true rfl) ?_
  intro p e s m args below meth c X Y
  refine z_aload_n X dX8_forbid_0 rfl ?_
  refine z_getr2 X fX8_35 (zso_1 hS) (zsr_1_3 hS) rfl dX8_forbid_1 ?_
  refine z_iload_n X dX8_forbid_4 rfl ?_
  cases hz : zin x no
  · skip
    skip
    refine z_runV X kX8_138 (tX4_officeAtN x hS hO hno hz) (zso_13 hS) rfl rfl (Nat.le_of_ble_eq_true rfl) ⟨by decide, by decide⟩ ⟨by decide, by decide⟩ dX8_forbid_5 ?_
    rintro _ g1 s1 ⟨rfl, h8, h9⟩
    replace h8 := h8.symm
    subst h8
    replace h9 := h9.symm
    subst h9
    refine z_astore_nN X dX8_forbid_8 (by decide) ?_
    refine z_aload_nN X dX8_forbid_9 rfl ?_
    refine z_ifnonnullN X dX8_forbid_10 ?_
    refine z_throw X Y (cls := "java/lang/IndexOutOfBoundsException") (text := "no such office") (names := zENs) (by decide +kernel) (by decide +kernel) (z_gd 248 (by decide +kernel) (by decide +kernel)) (z_gd 40 (by decide +kernel) (by decide +kernel)) (List.mem_of_getElem? (i := 410) (by decide +kernel)) zat_IndexOutOfBoundsException dX8_forbid_13 dX8_forbid_16 dX8_forbid_17 dX8_forbid_19 dX8_forbid_22 (by decide) (by decide) (Nat.le_of_ble_eq_true rfl) (Nat.le_of_ble_eq_true rfl) (Nat.le_of_ble_eq_true rfl) (Nat.le_of_ble_eq_true rfl) ?_
    exact ⟨⟨0, by unfold zx_in; simp_all, rfl⟩, rfl, rfl⟩
  · skip
    obtain ⟨o, ho9, rfl⟩ := zin_t hz (by have := hO.1; omega)
    have hF := hO.2.1 o ho9
    refine z_runV X kX8_138 (tX4_officeAt o hS hO hno ho9) (zso_13 hS) rfl rfl (Nat.le_of_ble_eq_true rfl) ⟨by decide, by decide⟩ ⟨by decide, by decide⟩ dX8_forbid_5 ?_
    rintro _ g1 s1 ⟨rfl, h8, h9⟩
    replace h8 := h8.symm
    subst h8
    replace h9 := h9.symm
    subst h9
    refine z_astore_n X dX8_forbid_8 (by decide) ?_
    refine z_aload_n X dX8_forbid_9 rfl ?_
    refine z_ifnonnull (tgt := 23) X dX8_forbid_10 (by decide) ?_
    refine z_aload_n X dX8_forbid_23 rfl ?_
    refine z_geti X fX8_167 (hF.1) rfl dX8_forbid_24 ?_
    refine z_istore X dX8_forbid_27 (by decide) ?_
    refine z_aload_n X dX8_forbid_29 rfl ?_
    refine z_iload_n X dX8_forbid_30 rfl ?_
    refine z_putz X fX8_167 (hF.1) hy rfl dX8_forbid_31 ?_
    refine z_iload X dX8_forbid_34 rfl ?_
    have hb9 := hfb o ho9
    refine z_rx ?_
    refine z_zret X (by decide) (by decide) rfl (by first | exact Or.inl rfl | exact Or.inr rfl | exact zb_01 _ | assumption) dX8_forbid_36 ?_
    exact ⟨by unfold zx_in; rw [if_pos hz], rfl, o, ho9, rfl, rfl, rfl⟩

abbrev NX8_key : zM := (yX8_key, cX8_key, 5, (some .int), 6, 1, 6, 140)
set_option maxHeartbeats 4000000 in
set_option maxRecDepth 100000 in
theorem tX8_key {l : Launch} {D : va_G} {cy : Nat → ClassId} {z0 : zRg} {g : zSh} {σ : zIn} (hfl : l.stackTraces = false) {no : Nat} (x y : Int32) (hS : zS g) (hO : zO g no) (hno : σ 13 4 = nI no) : z_Cx l D cy z0 NX8_key [.ref (g.2.1 1), .int x, .int y] g σ (fun v g' σ' => zx_key no x y = 0 ∧ g' = g ∧ ∃ o, o < no ∧ x = nI o ∧ σ' = z_up σ (100 + o) 1 y ∧ v = some (.int (σ (100 + o) 1))) (fun E g' σ' => zXk ["java/lang/IndexOutOfBoundsException", "java/lang/IllegalArgumentException"] (zx_key no x y) E ∧ g' = g ∧ σ' = σ) := by
  have hn8 := hO.1
  refine z_ofX hfl (by decide) (z_cr (z_ci (z_ci z_c0))) (Nat.le_of_ble_eq_true rfl) ?_
  intro p e s m args below meth c X Y
  refine z_aload_n X dX8_key_0 rfl ?_
  refine z_getr2 X fX8_35 (zso_1 hS) (zsr_1_3 hS) rfl dX8_key_1 ?_
  refine z_iload_n X dX8_key_4 rfl ?_
  cases hz : zin x no
  · skip
    skip
    refine z_runV X kX8_138 (tX4_officeAtN x hS hO hno hz) (zso_13 hS) rfl rfl (Nat.le_of_ble_eq_true rfl) ⟨by decide, by decide⟩ ⟨by decide, by decide⟩ dX8_key_5 ?_
    rintro _ g1 s1 ⟨rfl, h8, h9⟩
    replace h8 := h8.symm
    subst h8
    replace h9 := h9.symm
    subst h9
    refine z_astore_nN X dX8_key_8 (by decide) ?_
    refine z_aload_nN X dX8_key_9 rfl ?_
    refine z_ifnonnullN X dX8_key_10 ?_
    refine z_throw X Y (cls := "java/lang/IndexOutOfBoundsException") (text := "no such office") (names := zENs) (by decide +kernel) (by decide +kernel) (z_gd 248 (by decide +kernel) (by decide +kernel)) (z_gd 40 (by decide +kernel) (by decide +kernel)) (List.mem_of_getElem? (i := 410) (by decide +kernel)) zat_IndexOutOfBoundsException dX8_key_13 dX8_key_16 dX8_key_17 dX8_key_19 dX8_key_22 (by decide) (by decide) (Nat.le_of_ble_eq_true rfl) (Nat.le_of_ble_eq_true rfl) (Nat.le_of_ble_eq_true rfl) (Nat.le_of_ble_eq_true rfl) ?_
    exact ⟨⟨0, by unfold zx_key; simp_all, rfl⟩, rfl, rfl⟩
  · skip
    obtain ⟨o, ho9, rfl⟩ := zin_t hz (by have := hO.1; omega)
    have hF := hO.2.1 o ho9
    refine z_runV X kX8_138 (tX4_officeAt o hS hO hno ho9) (zso_13 hS) rfl rfl (Nat.le_of_ble_eq_true rfl) ⟨by decide, by decide⟩ ⟨by decide, by decide⟩ dX8_key_5 ?_
    rintro _ g1 s1 ⟨rfl, h8, h9⟩
    replace h8 := h8.symm
    subst h8
    replace h9 := h9.symm
    subst h9
    refine z_astore_n X dX8_key_8 (by decide) ?_
    refine z_aload_n X dX8_key_9 rfl ?_
    refine z_ifnonnull (tgt := 23) X dX8_key_10 (by decide) ?_
    refine z_iload_n X dX8_key_23 rfl ?_
    refine z_iconst (v := 0) X (by decide) dX8_key_24 ?_
    refine z_bipush (v := 39) X (by decide) dX8_key_25 ?_
    refine z_runS X kX8_68 (tX8_isOutside _ _ _) rfl rfl (Nat.le_of_ble_eq_true rfl) ⟨by decide, by decide⟩ ⟨by decide, by decide⟩ dX8_key_27 ?_
    rintro _ g1 s1 ⟨rfl, h8, h9⟩
    replace h8 := h8.symm
    subst h8
    replace h9 := h9.symm
    subst h9
    refine z_if_eq (tgt := 43) X dX8_key_30 (by decide) (fun c_30 => ?_) (fun c_30 => ?_)
    · skip
      try simp (disch := omega) only [zb_notn, zb_not, zb_n0, zb_0, Bool.not_eq_false, Bool.not_eq_true, Bool.not_eq_true', Bool.not_eq_false', decide_eq_true_eq, decide_eq_false_iff_not, Classical.not_not] at c_30
      refine z_aload_n X dX8_key_43 rfl ?_
      refine z_geti X fX8_174 (hF.1) rfl dX8_key_44 ?_
      refine z_istore X dX8_key_47 (by decide) ?_
      refine z_aload_n X dX8_key_49 rfl ?_
      refine z_iload_n X dX8_key_50 rfl ?_
      refine z_puti X fX8_174 (hF.1) rfl dX8_key_51 ?_
      refine z_iload X dX8_key_54 rfl ?_
      refine z_rx ?_
      refine z_iret X (by decide) (by decide) rfl dX8_key_56 ?_
      exact ⟨by unfold zx_key; rw [if_neg (by simp_all), if_neg c_30], rfl, o, ho9, rfl, rfl, rfl⟩
    · skip
      try simp (disch := omega) only [zb_notn, zb_not, zb_n0, zb_0, Bool.not_eq_false, Bool.not_eq_true, Bool.not_eq_true', Bool.not_eq_false', decide_eq_true_eq, decide_eq_false_iff_not, Classical.not_not] at c_30
      refine z_throw X Y (cls := "java/lang/IllegalArgumentException") (text := "key is out of range") (names := zENs) (by decide +kernel) (by decide +kernel) (z_gd 321 (by decide +kernel) (by decide +kernel)) (z_gd 38 (by decide +kernel) (by decide +kernel)) (List.mem_of_getElem? (i := 681) (by decide +kernel)) zat_IllegalArgumentException dX8_key_33 dX8_key_36 dX8_key_37 dX8_key_39 dX8_key_42 (by decide) (by decide) (Nat.le_of_ble_eq_true rfl) (Nat.le_of_ble_eq_true rfl) (Nat.le_of_ble_eq_true rfl) (Nat.le_of_ble_eq_true rfl) ?_
      exact ⟨⟨1, by unfold zx_key; simp_all, rfl⟩, rfl, rfl⟩

def zx_conf (nu : Nat) (d p c v : Int32) : Nat := if (d < 0 ∨ 1000 < d) ∨ (p < 5 ∨ 20 < p) ∨ (c ≠ 5 ∧ c ≠ 10 ∧ c ≠ 15) ∨ (v < 0 ∨ 3 < v) then 1 else if nu = 12 then 2 else 0
def zx_reserve (no nu : Nat) (x y : Int32) : Nat := if zin x no = false ∨ (y < 1 ∨ nI nu < y) then 1 else 0
def zx_draft (ni nd : Nat) (x : Int32) : Nat := if ¬ zin x ni = true then 1 else if nd = 24 then 2 else 0
abbrev NX8_conference : zM := (yX8_conference, cX8_conference, 6, (some .int), 6, 2, 11, 140)
set_option maxHeartbeats 4000000 in
set_option maxRecDepth 100000 in
theorem tX8_conference {l : Launch} {D : va_G} {cy : Nat → ClassId} {z0 : zRg} {g : zSh} {σ : zIn} (hfl : l.stackTraces = false) {nu : Nat} (x1 x2 x3 x4 : Int32) (hS : zS g) (hU : zU g nu) (hnu : σ 1 7 = nI nu) (hw : z_wf g) (hni : 140 + nu ∉ g.1) : z_Cx l D cy z0 NX8_conference [.ref (g.2.1 1), .int x1, .int x2, .int x3, .int x4] g σ (fun v g' σ' => zx_conf nu x1 x2 x3 x4 = 0 ∧ v = some (.int (nI (nu + 1))) ∧ ∃ a, g' = z_gr (z_add g (140 + nu) a 7 0) 19 nu (140 + nu) ∧ σ' = z_up (z_up (z_up (z_up (z_up (z_up (z_zero σ (140 + nu)) (140 + nu) 0 (nI (nu + 1))) (140 + nu) 1 x1) (140 + nu) 2 x2) (140 + nu) 3 x3) (140 + nu) 4 x4) 1 7 (nI (nu + 1))) (fun E g' σ' => zXk ["java/lang/IllegalArgumentException", "java/lang/IllegalStateException"] (zx_conf nu x1 x2 x3 x4) E ∧ g' = g ∧ σ' = σ) := by
  have hn12 := hU.1
  refine z_ofX hfl (by decide) (z_cr (z_ci (z_ci (z_ci (z_ci z_c0))))) (Nat.le_of_ble_eq_true rfl) ?_
  intro p e s m args below meth c X Y
  refine z_iload_n X dX8_conference_0 rfl ?_
  refine z_iconst (v := 0) X (by decide) dX8_conference_1 ?_
  refine z_sipush (v := 1000) X (by decide) dX8_conference_2 ?_
  refine z_runS X kX8_68 (tX8_isOutside _ _ _) rfl rfl (Nat.le_of_ble_eq_true rfl) ⟨by decide, by decide⟩ ⟨by decide, by decide⟩ dX8_conference_5 ?_
  rintro _ g1 s1 ⟨rfl, h8, h9⟩
  replace h8 := h8.symm
  subst h8
  replace h9 := h9.symm
  subst h9
  refine z_if_ne (tgt := 48) X dX8_conference_8 (by decide) (fun c_8 => ?_) (fun c_8 => ?_)
  · skip
    try simp (disch := omega) only [zb_notn, zb_not, zb_n0, zb_0, Bool.not_eq_false, Bool.not_eq_true, Bool.not_eq_true', Bool.not_eq_false', decide_eq_true_eq, decide_eq_false_iff_not, Classical.not_not] at c_8
    refine z_throw X Y (cls := "java/lang/IllegalArgumentException") (text := "day, plain, code or vowels is out of range") (names := zENs) (by decide +kernel) (by decide +kernel) (z_gd 321 (by decide +kernel) (by decide +kernel)) (z_gd 38 (by decide +kernel) (by decide +kernel)) (List.mem_of_getElem? (i := 686) (by decide +kernel)) zat_IllegalArgumentException dX8_conference_48 dX8_conference_51 dX8_conference_52 dX8_conference_54 dX8_conference_57 (by decide) (by decide) (Nat.le_of_ble_eq_true rfl) (Nat.le_of_ble_eq_true rfl) (Nat.le_of_ble_eq_true rfl) (Nat.le_of_ble_eq_true rfl) ?_
    exact ⟨⟨0, by unfold zx_conf; rw [if_pos (by first | exact Or.inl c_8 | exact Or.inr (Or.inl c_18) | exact Or.inr (Or.inr (Or.inl ⟨c_23, c_29, c_35⟩)) | exact Or.inr (Or.inr (Or.inr c_45)))], rfl⟩, rfl, rfl⟩
  · skip
    try simp (disch := omega) only [zb_notn, zb_not, zb_n0, zb_0, Bool.not_eq_false, Bool.not_eq_true, Bool.not_eq_true', Bool.not_eq_false', decide_eq_true_eq, decide_eq_false_iff_not, Classical.not_not] at c_8
    refine z_iload_n X dX8_conference_11 rfl ?_
    refine z_iconst (v := 5) X (by decide) dX8_conference_12 ?_
    refine z_bipush (v := 20) X (by decide) dX8_conference_13 ?_
    refine z_runS X kX8_68 (tX8_isOutside _ _ _) rfl rfl (Nat.le_of_ble_eq_true rfl) ⟨by decide, by decide⟩ ⟨by decide, by decide⟩ dX8_conference_15 ?_
    rintro _ g1 s1 ⟨rfl, h8, h9⟩
    replace h8 := h8.symm
    subst h8
    replace h9 := h9.symm
    subst h9
    refine z_if_ne (tgt := 48) X dX8_conference_18 (by decide) (fun c_18 => ?_) (fun c_18 => ?_)
    · skip
      try simp (disch := omega) only [zb_notn, zb_not, zb_n0, zb_0, Bool.not_eq_false, Bool.not_eq_true, Bool.not_eq_true', Bool.not_eq_false', decide_eq_true_eq, decide_eq_false_iff_not, Classical.not_not] at c_18
      refine z_throw X Y (cls := "java/lang/IllegalArgumentException") (text := "day, plain, code or vowels is out of range") (names := zENs) (by decide +kernel) (by decide +kernel) (z_gd 321 (by decide +kernel) (by decide +kernel)) (z_gd 38 (by decide +kernel) (by decide +kernel)) (List.mem_of_getElem? (i := 686) (by decide +kernel)) zat_IllegalArgumentException dX8_conference_48 dX8_conference_51 dX8_conference_52 dX8_conference_54 dX8_conference_57 (by decide) (by decide) (Nat.le_of_ble_eq_true rfl) (Nat.le_of_ble_eq_true rfl) (Nat.le_of_ble_eq_true rfl) (Nat.le_of_ble_eq_true rfl) ?_
      exact ⟨⟨0, by unfold zx_conf; rw [if_pos (by first | exact Or.inl c_8 | exact Or.inr (Or.inl c_18) | exact Or.inr (Or.inr (Or.inl ⟨c_23, c_29, c_35⟩)) | exact Or.inr (Or.inr (Or.inr c_45)))], rfl⟩, rfl, rfl⟩
    · skip
      try simp (disch := omega) only [zb_notn, zb_not, zb_n0, zb_0, Bool.not_eq_false, Bool.not_eq_true, Bool.not_eq_true', Bool.not_eq_false', decide_eq_true_eq, decide_eq_false_iff_not, Classical.not_not] at c_18
      refine z_iload_n X dX8_conference_21 rfl ?_
      refine z_iconst (v := 5) X (by decide) dX8_conference_22 ?_
      refine z_icmp_eq (tgt := 38) X dX8_conference_23 (by decide) (fun c_23 => ?_) (fun c_23 => ?_)
      · skip
        try simp (disch := omega) only [zb_notn, zb_not, zb_n0, zb_0, Bool.not_eq_false, Bool.not_eq_true, Bool.not_eq_true', Bool.not_eq_false', decide_eq_true_eq, decide_eq_false_iff_not, Classical.not_not] at c_23
        refine z_iload X dX8_conference_38 rfl ?_
        refine z_iconst (v := 0) X (by decide) dX8_conference_40 ?_
        refine z_iconst (v := 3) X (by decide) dX8_conference_41 ?_
        refine z_runS X kX8_68 (tX8_isOutside _ _ _) rfl rfl (Nat.le_of_ble_eq_true rfl) ⟨by decide, by decide⟩ ⟨by decide, by decide⟩ dX8_conference_42 ?_
        rintro _ g1 s1 ⟨rfl, h8, h9⟩
        replace h8 := h8.symm
        subst h8
        replace h9 := h9.symm
        subst h9
        refine z_if_eq (tgt := 58) X dX8_conference_45 (by decide) (fun c_45 => ?_) (fun c_45 => ?_)
        · skip
          try simp (disch := omega) only [zb_notn, zb_not, zb_n0, zb_0, Bool.not_eq_false, Bool.not_eq_true, Bool.not_eq_true', Bool.not_eq_false', decide_eq_true_eq, decide_eq_false_iff_not, Classical.not_not] at c_45
          refine z_aload_n X dX8_conference_58 rfl ?_
          refine z_geti X fX8_58 (zso_1 hS) rfl dX8_conference_59 ?_
          rw [hnu]
          refine z_aload_n X dX8_conference_62 rfl ?_
          refine z_getr2 X fX8_48 (zso_1 hS) (zsr_1_5 hS) rfl dX8_conference_63 ?_
          refine z_alen X (t := 6) (by decide) (zsa_19 hS) dX8_conference_66 ?_
          refine z_icmp_lt (tgt := 80) X dX8_conference_67 (by decide) (fun c_67 => ?_) (fun c_67 => ?_)
          · skip
            try simp (disch := omega) only [zk0, nI_leI, nI_ltI, nI_eq, zbk_notn, zbk_not, zbk_n0, zbk_0, zb_0, zb_n0, zb_not, zb_notn, Bool.not_eq_false, Bool.not_eq_true, Bool.not_eq_true', Bool.not_eq_false', decide_eq_true_eq, decide_eq_false_iff_not, Classical.not_not] at c_67
            refine z_aload_n X dX8_conference_80 rfl ?_
            refine z_geti X fX8_58 (zso_1 hS) rfl dX8_conference_81 ?_
            rw [hnu]
            refine z_iconst (v := nI 1) X (by decide) dX8_conference_84 ?_
            refine z_iaddN X dX8_conference_85 ?_
            refine z_istore X dX8_conference_86 (by decide) ?_
            refine z_aload_n X dX8_conference_88 rfl ?_
            refine z_getr2 X fX8_48 (zso_1 hS) (zsr_1_5 hS) rfl dX8_conference_89 ?_
            refine z_aload_n X dX8_conference_92 rfl ?_
            refine z_geti X fX8_58 (zso_1 hS) rfl dX8_conference_93 ?_
            rw [hnu]
            refine z_new X (i := (140 + nu)) nX8_39 hw (by assumption) (by omega) (Nat.le_of_ble_eq_true rfl) (Nat.le_of_ble_eq_true rfl) dX8_conference_96 (fun a96 => ?_)
            obtain ⟨gN, hgN⟩ : ∃ g1, g1 = z_add g (140 + nu) a96 7 0 := ⟨_, rfl⟩
            rw [show z_add g (140 + nu) a96 7 0 = gN from hgN.symm]
            have ea : a96 = gN.2.1 ((140 + nu)) := by rw [hgN]; exact z_add_at.symm
            rw [ea]
            have e00 : g.2.1 1 = gN.2.1 1 := by rw [hgN]; exact (z_add_ne (by omega)).symm
            rw [e00]
            have e01 : g.2.1 19 = gN.2.1 19 := by rw [hgN]; exact (z_add_ne (by omega)).symm
            rw [e01]
            have hNew : z_ob gN ((140 + nu)) 7 := by rw [hgN]; exact z_ob_at
            have hA : z_ar gN 19 6 12 := by rw [hgN]; exact z_ar_add (zsa_19 hS) hni
            have hO1 : z_ob gN 1 8 := by rw [hgN]; exact z_ob_add (zso_1 hS) hni
            refine z_dup X rfl dX8_conference_99 ?_
            refine z_iload X dX8_conference_100 rfl ?_
            refine z_iload_n X dX8_conference_102 rfl ?_
            refine z_iload_n X dX8_conference_103 rfl ?_
            refine z_iload_n X dX8_conference_104 rfl ?_
            refine z_iload X dX8_conference_105 rfl ?_
            refine z_runI X kX8_41 (tX7_init _ x1 x2 x3 x4 hNew) rfl rfl (Nat.le_of_ble_eq_true rfl) ⟨by decide, by decide⟩ ⟨by decide, by decide⟩ dX8_conference_107 ?_
            rintro _ g1 s1 ⟨rfl, h8, h9⟩
            replace h8 := h8.symm
            subst h8
            replace h9 := h9.symm
            subst h9
            refine z_aast X (t := 6) (ci := 7) (by decide) rfl (by decide) rfl hA (by first | assumption | exact vp_in_nI (by omega) (by omega) | exact z_vin (by omega) (by omega)) hNew (by omega) dX8_conference_110 ?_
            rw [nI_clamp (by omega)]
            refine z_aload_n X dX8_conference_111 rfl ?_
            refine z_iload X dX8_conference_112 rfl ?_
            refine z_puti X fX8_58 (z_ob_gr hO1) rfl dX8_conference_114 ?_
            refine z_iload X dX8_conference_117 rfl ?_
            refine z_rx ?_
            refine z_iret X (by decide) (by decide) rfl dX8_conference_119 ?_
            exact ⟨by unfold zx_conf; rw [if_neg (fun q => by rcases q with q | q | ⟨q1, q2, q3⟩ | q; exact c_8 q; exact c_18 q; (first | exact q1 c_23 | exact q2 c_29 | exact q3 c_35); exact c_45 q), if_neg (by omega)], rfl, a96, by rw [← hgN], rfl⟩
          · skip
            try simp (disch := omega) only [zk0, nI_leI, nI_ltI, nI_eq, zbk_notn, zbk_not, zbk_n0, zbk_0, zb_0, zb_n0, zb_not, zb_notn, Bool.not_eq_false, Bool.not_eq_true, Bool.not_eq_true', Bool.not_eq_false', decide_eq_true_eq, decide_eq_false_iff_not, Classical.not_not] at c_67
            refine z_throw X Y (cls := "java/lang/IllegalStateException") (text := "there are 12 conferences") (names := zENs) (by decide +kernel) (by decide +kernel) (z_gd 559 (by decide +kernel) (by decide +kernel)) (z_gd 39 (by decide +kernel) (by decide +kernel)) (List.mem_of_getElem? (i := 687) (by decide +kernel)) zat_IllegalStateException dX8_conference_70 dX8_conference_73 dX8_conference_74 dX8_conference_76 dX8_conference_79 (by decide) (by decide) (Nat.le_of_ble_eq_true rfl) (Nat.le_of_ble_eq_true rfl) (Nat.le_of_ble_eq_true rfl) (Nat.le_of_ble_eq_true rfl) ?_
            exact ⟨⟨1, by unfold zx_conf; rw [if_neg (fun q => by rcases q with q | q | ⟨q1, q2, q3⟩ | q; exact c_8 q; exact c_18 q; (first | exact q1 c_23 | exact q2 c_29 | exact q3 c_35); exact c_45 q), if_pos (by omega)], rfl⟩, rfl, rfl⟩
        · skip
          try simp (disch := omega) only [zb_notn, zb_not, zb_n0, zb_0, Bool.not_eq_false, Bool.not_eq_true, Bool.not_eq_true', Bool.not_eq_false', decide_eq_true_eq, decide_eq_false_iff_not, Classical.not_not] at c_45
          refine z_throw X Y (cls := "java/lang/IllegalArgumentException") (text := "day, plain, code or vowels is out of range") (names := zENs) (by decide +kernel) (by decide +kernel) (z_gd 321 (by decide +kernel) (by decide +kernel)) (z_gd 38 (by decide +kernel) (by decide +kernel)) (List.mem_of_getElem? (i := 686) (by decide +kernel)) zat_IllegalArgumentException dX8_conference_48 dX8_conference_51 dX8_conference_52 dX8_conference_54 dX8_conference_57 (by decide) (by decide) (Nat.le_of_ble_eq_true rfl) (Nat.le_of_ble_eq_true rfl) (Nat.le_of_ble_eq_true rfl) (Nat.le_of_ble_eq_true rfl) ?_
          exact ⟨⟨0, by unfold zx_conf; rw [if_pos (by first | exact Or.inl c_8 | exact Or.inr (Or.inl c_18) | exact Or.inr (Or.inr (Or.inl ⟨c_23, c_29, c_35⟩)) | exact Or.inr (Or.inr (Or.inr c_45)))], rfl⟩, rfl, rfl⟩
      · skip
        try simp (disch := omega) only [zb_notn, zb_not, zb_n0, zb_0, Bool.not_eq_false, Bool.not_eq_true, Bool.not_eq_true', Bool.not_eq_false', decide_eq_true_eq, decide_eq_false_iff_not, Classical.not_not] at c_23
        refine z_iload_n X dX8_conference_26 rfl ?_
        refine z_bipush (v := 10) X (by decide) dX8_conference_27 ?_
        refine z_icmp_eq (tgt := 38) X dX8_conference_29 (by decide) (fun c_29 => ?_) (fun c_29 => ?_)
        · skip
          try simp (disch := omega) only [zb_notn, zb_not, zb_n0, zb_0, Bool.not_eq_false, Bool.not_eq_true, Bool.not_eq_true', Bool.not_eq_false', decide_eq_true_eq, decide_eq_false_iff_not, Classical.not_not] at c_29
          refine z_iload X dX8_conference_38 rfl ?_
          refine z_iconst (v := 0) X (by decide) dX8_conference_40 ?_
          refine z_iconst (v := 3) X (by decide) dX8_conference_41 ?_
          refine z_runS X kX8_68 (tX8_isOutside _ _ _) rfl rfl (Nat.le_of_ble_eq_true rfl) ⟨by decide, by decide⟩ ⟨by decide, by decide⟩ dX8_conference_42 ?_
          rintro _ g1 s1 ⟨rfl, h8, h9⟩
          replace h8 := h8.symm
          subst h8
          replace h9 := h9.symm
          subst h9
          refine z_if_eq (tgt := 58) X dX8_conference_45 (by decide) (fun c_45 => ?_) (fun c_45 => ?_)
          · skip
            try simp (disch := omega) only [zb_notn, zb_not, zb_n0, zb_0, Bool.not_eq_false, Bool.not_eq_true, Bool.not_eq_true', Bool.not_eq_false', decide_eq_true_eq, decide_eq_false_iff_not, Classical.not_not] at c_45
            refine z_aload_n X dX8_conference_58 rfl ?_
            refine z_geti X fX8_58 (zso_1 hS) rfl dX8_conference_59 ?_
            rw [hnu]
            refine z_aload_n X dX8_conference_62 rfl ?_
            refine z_getr2 X fX8_48 (zso_1 hS) (zsr_1_5 hS) rfl dX8_conference_63 ?_
            refine z_alen X (t := 6) (by decide) (zsa_19 hS) dX8_conference_66 ?_
            refine z_icmp_lt (tgt := 80) X dX8_conference_67 (by decide) (fun c_67 => ?_) (fun c_67 => ?_)
            · skip
              try simp (disch := omega) only [zk0, nI_leI, nI_ltI, nI_eq, zbk_notn, zbk_not, zbk_n0, zbk_0, zb_0, zb_n0, zb_not, zb_notn, Bool.not_eq_false, Bool.not_eq_true, Bool.not_eq_true', Bool.not_eq_false', decide_eq_true_eq, decide_eq_false_iff_not, Classical.not_not] at c_67
              refine z_aload_n X dX8_conference_80 rfl ?_
              refine z_geti X fX8_58 (zso_1 hS) rfl dX8_conference_81 ?_
              rw [hnu]
              refine z_iconst (v := nI 1) X (by decide) dX8_conference_84 ?_
              refine z_iaddN X dX8_conference_85 ?_
              refine z_istore X dX8_conference_86 (by decide) ?_
              refine z_aload_n X dX8_conference_88 rfl ?_
              refine z_getr2 X fX8_48 (zso_1 hS) (zsr_1_5 hS) rfl dX8_conference_89 ?_
              refine z_aload_n X dX8_conference_92 rfl ?_
              refine z_geti X fX8_58 (zso_1 hS) rfl dX8_conference_93 ?_
              rw [hnu]
              refine z_new X (i := (140 + nu)) nX8_39 hw (by assumption) (by omega) (Nat.le_of_ble_eq_true rfl) (Nat.le_of_ble_eq_true rfl) dX8_conference_96 (fun a96 => ?_)
              obtain ⟨gN, hgN⟩ : ∃ g1, g1 = z_add g (140 + nu) a96 7 0 := ⟨_, rfl⟩
              rw [show z_add g (140 + nu) a96 7 0 = gN from hgN.symm]
              have ea : a96 = gN.2.1 ((140 + nu)) := by rw [hgN]; exact z_add_at.symm
              rw [ea]
              have e00 : g.2.1 1 = gN.2.1 1 := by rw [hgN]; exact (z_add_ne (by omega)).symm
              rw [e00]
              have e01 : g.2.1 19 = gN.2.1 19 := by rw [hgN]; exact (z_add_ne (by omega)).symm
              rw [e01]
              have hNew : z_ob gN ((140 + nu)) 7 := by rw [hgN]; exact z_ob_at
              have hA : z_ar gN 19 6 12 := by rw [hgN]; exact z_ar_add (zsa_19 hS) hni
              have hO1 : z_ob gN 1 8 := by rw [hgN]; exact z_ob_add (zso_1 hS) hni
              refine z_dup X rfl dX8_conference_99 ?_
              refine z_iload X dX8_conference_100 rfl ?_
              refine z_iload_n X dX8_conference_102 rfl ?_
              refine z_iload_n X dX8_conference_103 rfl ?_
              refine z_iload_n X dX8_conference_104 rfl ?_
              refine z_iload X dX8_conference_105 rfl ?_
              refine z_runI X kX8_41 (tX7_init _ x1 x2 x3 x4 hNew) rfl rfl (Nat.le_of_ble_eq_true rfl) ⟨by decide, by decide⟩ ⟨by decide, by decide⟩ dX8_conference_107 ?_
              rintro _ g1 s1 ⟨rfl, h8, h9⟩
              replace h8 := h8.symm
              subst h8
              replace h9 := h9.symm
              subst h9
              refine z_aast X (t := 6) (ci := 7) (by decide) rfl (by decide) rfl hA (by first | assumption | exact vp_in_nI (by omega) (by omega) | exact z_vin (by omega) (by omega)) hNew (by omega) dX8_conference_110 ?_
              rw [nI_clamp (by omega)]
              refine z_aload_n X dX8_conference_111 rfl ?_
              refine z_iload X dX8_conference_112 rfl ?_
              refine z_puti X fX8_58 (z_ob_gr hO1) rfl dX8_conference_114 ?_
              refine z_iload X dX8_conference_117 rfl ?_
              refine z_rx ?_
              refine z_iret X (by decide) (by decide) rfl dX8_conference_119 ?_
              exact ⟨by unfold zx_conf; rw [if_neg (fun q => by rcases q with q | q | ⟨q1, q2, q3⟩ | q; exact c_8 q; exact c_18 q; (first | exact q1 c_23 | exact q2 c_29 | exact q3 c_35); exact c_45 q), if_neg (by omega)], rfl, a96, by rw [← hgN], rfl⟩
            · skip
              try simp (disch := omega) only [zk0, nI_leI, nI_ltI, nI_eq, zbk_notn, zbk_not, zbk_n0, zbk_0, zb_0, zb_n0, zb_not, zb_notn, Bool.not_eq_false, Bool.not_eq_true, Bool.not_eq_true', Bool.not_eq_false', decide_eq_true_eq, decide_eq_false_iff_not, Classical.not_not] at c_67
              refine z_throw X Y (cls := "java/lang/IllegalStateException") (text := "there are 12 conferences") (names := zENs) (by decide +kernel) (by decide +kernel) (z_gd 559 (by decide +kernel) (by decide +kernel)) (z_gd 39 (by decide +kernel) (by decide +kernel)) (List.mem_of_getElem? (i := 687) (by decide +kernel)) zat_IllegalStateException dX8_conference_70 dX8_conference_73 dX8_conference_74 dX8_conference_76 dX8_conference_79 (by decide) (by decide) (Nat.le_of_ble_eq_true rfl) (Nat.le_of_ble_eq_true rfl) (Nat.le_of_ble_eq_true rfl) (Nat.le_of_ble_eq_true rfl) ?_
              exact ⟨⟨1, by unfold zx_conf; rw [if_neg (fun q => by rcases q with q | q | ⟨q1, q2, q3⟩ | q; exact c_8 q; exact c_18 q; (first | exact q1 c_23 | exact q2 c_29 | exact q3 c_35); exact c_45 q), if_pos (by omega)], rfl⟩, rfl, rfl⟩
          · skip
            try simp (disch := omega) only [zb_notn, zb_not, zb_n0, zb_0, Bool.not_eq_false, Bool.not_eq_true, Bool.not_eq_true', Bool.not_eq_false', decide_eq_true_eq, decide_eq_false_iff_not, Classical.not_not] at c_45
            refine z_throw X Y (cls := "java/lang/IllegalArgumentException") (text := "day, plain, code or vowels is out of range") (names := zENs) (by decide +kernel) (by decide +kernel) (z_gd 321 (by decide +kernel) (by decide +kernel)) (z_gd 38 (by decide +kernel) (by decide +kernel)) (List.mem_of_getElem? (i := 686) (by decide +kernel)) zat_IllegalArgumentException dX8_conference_48 dX8_conference_51 dX8_conference_52 dX8_conference_54 dX8_conference_57 (by decide) (by decide) (Nat.le_of_ble_eq_true rfl) (Nat.le_of_ble_eq_true rfl) (Nat.le_of_ble_eq_true rfl) (Nat.le_of_ble_eq_true rfl) ?_
            exact ⟨⟨0, by unfold zx_conf; rw [if_pos (by first | exact Or.inl c_8 | exact Or.inr (Or.inl c_18) | exact Or.inr (Or.inr (Or.inl ⟨c_23, c_29, c_35⟩)) | exact Or.inr (Or.inr (Or.inr c_45)))], rfl⟩, rfl, rfl⟩
        · skip
          try simp (disch := omega) only [zb_notn, zb_not, zb_n0, zb_0, Bool.not_eq_false, Bool.not_eq_true, Bool.not_eq_true', Bool.not_eq_false', decide_eq_true_eq, decide_eq_false_iff_not, Classical.not_not] at c_29
          refine z_iload_n X dX8_conference_32 rfl ?_
          refine z_bipush (v := 15) X (by decide) dX8_conference_33 ?_
          refine z_icmp_ne (tgt := 48) X dX8_conference_35 (by decide) (fun c_35 => ?_) (fun c_35 => ?_)
          · skip
            try simp (disch := omega) only [zb_notn, zb_not, zb_n0, zb_0, Bool.not_eq_false, Bool.not_eq_true, Bool.not_eq_true', Bool.not_eq_false', decide_eq_true_eq, decide_eq_false_iff_not, Classical.not_not] at c_35
            refine z_throw X Y (cls := "java/lang/IllegalArgumentException") (text := "day, plain, code or vowels is out of range") (names := zENs) (by decide +kernel) (by decide +kernel) (z_gd 321 (by decide +kernel) (by decide +kernel)) (z_gd 38 (by decide +kernel) (by decide +kernel)) (List.mem_of_getElem? (i := 686) (by decide +kernel)) zat_IllegalArgumentException dX8_conference_48 dX8_conference_51 dX8_conference_52 dX8_conference_54 dX8_conference_57 (by decide) (by decide) (Nat.le_of_ble_eq_true rfl) (Nat.le_of_ble_eq_true rfl) (Nat.le_of_ble_eq_true rfl) (Nat.le_of_ble_eq_true rfl) ?_
            exact ⟨⟨0, by unfold zx_conf; rw [if_pos (by first | exact Or.inl c_8 | exact Or.inr (Or.inl c_18) | exact Or.inr (Or.inr (Or.inl ⟨c_23, c_29, c_35⟩)) | exact Or.inr (Or.inr (Or.inr c_45)))], rfl⟩, rfl, rfl⟩
          · skip
            try simp (disch := omega) only [zb_notn, zb_not, zb_n0, zb_0, Bool.not_eq_false, Bool.not_eq_true, Bool.not_eq_true', Bool.not_eq_false', decide_eq_true_eq, decide_eq_false_iff_not, Classical.not_not] at c_35
            refine z_iload X dX8_conference_38 rfl ?_
            refine z_iconst (v := 0) X (by decide) dX8_conference_40 ?_
            refine z_iconst (v := 3) X (by decide) dX8_conference_41 ?_
            refine z_runS X kX8_68 (tX8_isOutside _ _ _) rfl rfl (Nat.le_of_ble_eq_true rfl) ⟨by decide, by decide⟩ ⟨by decide, by decide⟩ dX8_conference_42 ?_
            rintro _ g1 s1 ⟨rfl, h8, h9⟩
            replace h8 := h8.symm
            subst h8
            replace h9 := h9.symm
            subst h9
            refine z_if_eq (tgt := 58) X dX8_conference_45 (by decide) (fun c_45 => ?_) (fun c_45 => ?_)
            · skip
              try simp (disch := omega) only [zb_notn, zb_not, zb_n0, zb_0, Bool.not_eq_false, Bool.not_eq_true, Bool.not_eq_true', Bool.not_eq_false', decide_eq_true_eq, decide_eq_false_iff_not, Classical.not_not] at c_45
              refine z_aload_n X dX8_conference_58 rfl ?_
              refine z_geti X fX8_58 (zso_1 hS) rfl dX8_conference_59 ?_
              rw [hnu]
              refine z_aload_n X dX8_conference_62 rfl ?_
              refine z_getr2 X fX8_48 (zso_1 hS) (zsr_1_5 hS) rfl dX8_conference_63 ?_
              refine z_alen X (t := 6) (by decide) (zsa_19 hS) dX8_conference_66 ?_
              refine z_icmp_lt (tgt := 80) X dX8_conference_67 (by decide) (fun c_67 => ?_) (fun c_67 => ?_)
              · skip
                try simp (disch := omega) only [zk0, nI_leI, nI_ltI, nI_eq, zbk_notn, zbk_not, zbk_n0, zbk_0, zb_0, zb_n0, zb_not, zb_notn, Bool.not_eq_false, Bool.not_eq_true, Bool.not_eq_true', Bool.not_eq_false', decide_eq_true_eq, decide_eq_false_iff_not, Classical.not_not] at c_67
                refine z_aload_n X dX8_conference_80 rfl ?_
                refine z_geti X fX8_58 (zso_1 hS) rfl dX8_conference_81 ?_
                rw [hnu]
                refine z_iconst (v := nI 1) X (by decide) dX8_conference_84 ?_
                refine z_iaddN X dX8_conference_85 ?_
                refine z_istore X dX8_conference_86 (by decide) ?_
                refine z_aload_n X dX8_conference_88 rfl ?_
                refine z_getr2 X fX8_48 (zso_1 hS) (zsr_1_5 hS) rfl dX8_conference_89 ?_
                refine z_aload_n X dX8_conference_92 rfl ?_
                refine z_geti X fX8_58 (zso_1 hS) rfl dX8_conference_93 ?_
                rw [hnu]
                refine z_new X (i := (140 + nu)) nX8_39 hw (by assumption) (by omega) (Nat.le_of_ble_eq_true rfl) (Nat.le_of_ble_eq_true rfl) dX8_conference_96 (fun a96 => ?_)
                obtain ⟨gN, hgN⟩ : ∃ g1, g1 = z_add g (140 + nu) a96 7 0 := ⟨_, rfl⟩
                rw [show z_add g (140 + nu) a96 7 0 = gN from hgN.symm]
                have ea : a96 = gN.2.1 ((140 + nu)) := by rw [hgN]; exact z_add_at.symm
                rw [ea]
                have e00 : g.2.1 1 = gN.2.1 1 := by rw [hgN]; exact (z_add_ne (by omega)).symm
                rw [e00]
                have e01 : g.2.1 19 = gN.2.1 19 := by rw [hgN]; exact (z_add_ne (by omega)).symm
                rw [e01]
                have hNew : z_ob gN ((140 + nu)) 7 := by rw [hgN]; exact z_ob_at
                have hA : z_ar gN 19 6 12 := by rw [hgN]; exact z_ar_add (zsa_19 hS) hni
                have hO1 : z_ob gN 1 8 := by rw [hgN]; exact z_ob_add (zso_1 hS) hni
                refine z_dup X rfl dX8_conference_99 ?_
                refine z_iload X dX8_conference_100 rfl ?_
                refine z_iload_n X dX8_conference_102 rfl ?_
                refine z_iload_n X dX8_conference_103 rfl ?_
                refine z_iload_n X dX8_conference_104 rfl ?_
                refine z_iload X dX8_conference_105 rfl ?_
                refine z_runI X kX8_41 (tX7_init _ x1 x2 x3 x4 hNew) rfl rfl (Nat.le_of_ble_eq_true rfl) ⟨by decide, by decide⟩ ⟨by decide, by decide⟩ dX8_conference_107 ?_
                rintro _ g1 s1 ⟨rfl, h8, h9⟩
                replace h8 := h8.symm
                subst h8
                replace h9 := h9.symm
                subst h9
                refine z_aast X (t := 6) (ci := 7) (by decide) rfl (by decide) rfl hA (by first | assumption | exact vp_in_nI (by omega) (by omega) | exact z_vin (by omega) (by omega)) hNew (by omega) dX8_conference_110 ?_
                rw [nI_clamp (by omega)]
                refine z_aload_n X dX8_conference_111 rfl ?_
                refine z_iload X dX8_conference_112 rfl ?_
                refine z_puti X fX8_58 (z_ob_gr hO1) rfl dX8_conference_114 ?_
                refine z_iload X dX8_conference_117 rfl ?_
                refine z_rx ?_
                refine z_iret X (by decide) (by decide) rfl dX8_conference_119 ?_
                exact ⟨by unfold zx_conf; rw [if_neg (fun q => by rcases q with q | q | ⟨q1, q2, q3⟩ | q; exact c_8 q; exact c_18 q; (first | exact q1 c_23 | exact q2 c_29 | exact q3 c_35); exact c_45 q), if_neg (by omega)], rfl, a96, by rw [← hgN], rfl⟩
              · skip
                try simp (disch := omega) only [zk0, nI_leI, nI_ltI, nI_eq, zbk_notn, zbk_not, zbk_n0, zbk_0, zb_0, zb_n0, zb_not, zb_notn, Bool.not_eq_false, Bool.not_eq_true, Bool.not_eq_true', Bool.not_eq_false', decide_eq_true_eq, decide_eq_false_iff_not, Classical.not_not] at c_67
                refine z_throw X Y (cls := "java/lang/IllegalStateException") (text := "there are 12 conferences") (names := zENs) (by decide +kernel) (by decide +kernel) (z_gd 559 (by decide +kernel) (by decide +kernel)) (z_gd 39 (by decide +kernel) (by decide +kernel)) (List.mem_of_getElem? (i := 687) (by decide +kernel)) zat_IllegalStateException dX8_conference_70 dX8_conference_73 dX8_conference_74 dX8_conference_76 dX8_conference_79 (by decide) (by decide) (Nat.le_of_ble_eq_true rfl) (Nat.le_of_ble_eq_true rfl) (Nat.le_of_ble_eq_true rfl) (Nat.le_of_ble_eq_true rfl) ?_
                exact ⟨⟨1, by unfold zx_conf; rw [if_neg (fun q => by rcases q with q | q | ⟨q1, q2, q3⟩ | q; exact c_8 q; exact c_18 q; (first | exact q1 c_23 | exact q2 c_29 | exact q3 c_35); exact c_45 q), if_pos (by omega)], rfl⟩, rfl, rfl⟩
            · skip
              try simp (disch := omega) only [zb_notn, zb_not, zb_n0, zb_0, Bool.not_eq_false, Bool.not_eq_true, Bool.not_eq_true', Bool.not_eq_false', decide_eq_true_eq, decide_eq_false_iff_not, Classical.not_not] at c_45
              refine z_throw X Y (cls := "java/lang/IllegalArgumentException") (text := "day, plain, code or vowels is out of range") (names := zENs) (by decide +kernel) (by decide +kernel) (z_gd 321 (by decide +kernel) (by decide +kernel)) (z_gd 38 (by decide +kernel) (by decide +kernel)) (List.mem_of_getElem? (i := 686) (by decide +kernel)) zat_IllegalArgumentException dX8_conference_48 dX8_conference_51 dX8_conference_52 dX8_conference_54 dX8_conference_57 (by decide) (by decide) (Nat.le_of_ble_eq_true rfl) (Nat.le_of_ble_eq_true rfl) (Nat.le_of_ble_eq_true rfl) (Nat.le_of_ble_eq_true rfl) ?_
              exact ⟨⟨0, by unfold zx_conf; rw [if_pos (by first | exact Or.inl c_8 | exact Or.inr (Or.inl c_18) | exact Or.inr (Or.inr (Or.inl ⟨c_23, c_29, c_35⟩)) | exact Or.inr (Or.inr (Or.inr c_45)))], rfl⟩, rfl, rfl⟩

theorem zrat_ob {g : zSh} {σ : zIn} {dy : Nat → Nat} {day nu o j : Nat} (hS : zS g) (hU : zU g nu) (h : zrat σ dy day nu o j) : z_ob g j 7 := by
  rcases h with ⟨k, hk, rfl, -⟩ | ⟨rfl, -⟩
  · exact (hU.2.1 k hk).1
  · exact zso_18 hS
theorem zrg_k {y : Int32} {n : Nat} (hn : n < 1000) (h : ¬ (y < 1 ∨ nI n < y)) : ∃ k, 1 ≤ k ∧ k ≤ n ∧ y = nI k := by
  have h1 : ¬ y < 1 := fun q => h (Or.inl q)
  have h2 : ¬ nI n < y := fun q => h (Or.inr q)
  rw [Int32.lt_iff_toInt_lt] at h1 h2
  have e1 : (1 : Int32).toInt = 1 := by decide
  rw [nI_toInt (by omega)] at h2
  obtain ⟨j, hj, rfl⟩ := nI_of (x := y) (by rw [Int32.lt_iff_toInt_lt]; have : (0 : Int32).toInt = 0 := by decide
                                            omega)
  rw [nI_toInt hj] at h1 h2
  exact ⟨j, by omega, by omega, rfl⟩
theorem zRu_up {σ : zIn} {nu o k : Nat} {v : Int32} {dy : Nat → Nat} (ho : o < 8) (h : zRu σ nu dy) : zRu (z_up σ (110 + o) k v) nu dy := by
  intro q hq
  rw [z_up_ne (by omega)]
  exact h q hq
abbrev NX8_reserve : zM := (yX8_reserve, cX8_reserve, 4, (some .int), 6, 1, 6, 140)
set_option maxHeartbeats 4000000 in
set_option maxRecDepth 100000 in
theorem tX8_reserve {l : Launch} {D : va_G} {cy : Nat → ClassId} {z0 : zRg} {g : zSh} {σ : zIn} (hfl : l.stackTraces = false) {no nu mi : Nat} {dy : Nat → Nat} (x y : Int32) (hS : zS g) (hO : zO g no) (hno : σ 13 4 = nI no) (hU : zU g nu) (hnu : σ 1 7 = nI nu) (hmi : σ 1 9 = nI mi) (hmi2 : mi ≤ 1000000) (hRu : zRu σ nu dy) : z_Cx l D cy z0 NX8_reserve [.ref (g.2.1 1), .int x, .int y] g σ (fun v g' σ' => zx_reserve no nu x y = 0 ∧ g' = g ∧ ∃ o k j, o < no ∧ x = nI o ∧ 1 ≤ k ∧ k ≤ nu ∧ y = nI k ∧ σ' = z_up σ (110 + o) k 1 ∧ zrat σ' dy (mi / 1440) nu o j ∧ v = some (.int (σ' j 0))) (fun E g' σ' => zXk ["java/lang/IndexOutOfBoundsException"] (zx_reserve no nu x y) E ∧ g' = g ∧ σ' = σ) := by
  have hn8 := hO.1
  have hn12 := hU.1
  refine z_ofX hfl (by decide) (z_cr (z_ci (z_ci z_c0))) (Nat.le_of_ble_eq_true rfl) ?_
  intro p e s m args below meth c X Y
  refine z_aload_n X dX8_reserve_0 rfl ?_
  refine z_getr2 X fX8_35 (zso_1 hS) (zsr_1_3 hS) rfl dX8_reserve_1 ?_
  refine z_iload_n X dX8_reserve_4 rfl ?_
  cases hz : zin x no
  · skip
    skip
    refine z_runV X kX8_138 (tX4_officeAtN x hS hO hno hz) (zso_13 hS) rfl rfl (Nat.le_of_ble_eq_true rfl) ⟨by decide, by decide⟩ ⟨by decide, by decide⟩ dX8_reserve_5 ?_
    rintro _ g1 s1 ⟨rfl, h8, h9⟩
    replace h8 := h8.symm
    subst h8
    replace h9 := h9.symm
    subst h9
    refine z_astore_nN X dX8_reserve_8 (by decide) ?_
    refine z_aload_nN X dX8_reserve_9 rfl ?_
    refine z_ifnullN (tgt := 25) X dX8_reserve_10 (by decide) ?_
    refine z_throw X Y (cls := "java/lang/IndexOutOfBoundsException") (text := "no such office or conference") (names := zENs) (by decide +kernel) (by decide +kernel) (z_gd 248 (by decide +kernel) (by decide +kernel)) (z_gd 40 (by decide +kernel) (by decide +kernel)) (List.mem_of_getElem? (i := 692) (by decide +kernel)) zat_IndexOutOfBoundsException dX8_reserve_25 dX8_reserve_28 dX8_reserve_29 dX8_reserve_31 dX8_reserve_34 (by decide) (by decide) (Nat.le_of_ble_eq_true rfl) (Nat.le_of_ble_eq_true rfl) (Nat.le_of_ble_eq_true rfl) (Nat.le_of_ble_eq_true rfl) ?_
    exact ⟨⟨0, by unfold zx_reserve; simp_all, rfl⟩, rfl, rfl⟩
  · skip
    obtain ⟨o, ho9, rfl⟩ := zin_t hz (by have := hO.1; omega)
    have hF := hO.2.1 o ho9
    refine z_runV X kX8_138 (tX4_officeAt o hS hO hno ho9) (zso_13 hS) rfl rfl (Nat.le_of_ble_eq_true rfl) ⟨by decide, by decide⟩ ⟨by decide, by decide⟩ dX8_reserve_5 ?_
    rintro _ g1 s1 ⟨rfl, h8, h9⟩
    replace h8 := h8.symm
    subst h8
    replace h9 := h9.symm
    subst h9
    refine z_astore_n X dX8_reserve_8 (by decide) ?_
    refine z_aload_n X dX8_reserve_9 rfl ?_
    refine z_ifnull X dX8_reserve_10 ?_
    refine z_iload_n X dX8_reserve_13 rfl ?_
    refine z_iconst (v := 1) X (by decide) dX8_reserve_14 ?_
    refine z_aload_n X dX8_reserve_15 rfl ?_
    refine z_geti X fX8_58 (zso_1 hS) rfl dX8_reserve_16 ?_
    rw [hnu]
    refine z_runS X kX8_68 (tX8_isOutside _ _ _) rfl rfl (Nat.le_of_ble_eq_true rfl) ⟨by decide, by decide⟩ ⟨by decide, by decide⟩ dX8_reserve_19 ?_
    rintro _ g1 s1 ⟨rfl, h8, h9⟩
    replace h8 := h8.symm
    subst h8
    replace h9 := h9.symm
    subst h9
    refine z_if_eq (tgt := 35) X dX8_reserve_22 (by decide) (fun c_22 => ?_) (fun c_22 => ?_)
    · skip
      try simp (disch := omega) only [zb_notn, zb_not, zb_n0, zb_0, Bool.not_eq_false, Bool.not_eq_true, Bool.not_eq_true', Bool.not_eq_false', decide_eq_true_eq, decide_eq_false_iff_not, Classical.not_not] at c_22
      refine z_aload_n X dX8_reserve_35 rfl ?_
      refine z_iload_n X dX8_reserve_36 rfl ?_
      obtain ⟨k9, hk1, hk2, rfl⟩ := zrg_k (by omega) c_22
      refine z_runV X kX8_183 (tX5_reserveRules k9 hO ho9 (by omega)) (hF.1) rfl rfl (Nat.le_of_ble_eq_true rfl) ⟨by decide, by decide⟩ ⟨by decide, by decide⟩ dX8_reserve_37 ?_
      rintro _ g1 s1 ⟨rfl, h8, h9⟩
      replace h8 := h8.symm
      subst h8
      replace h9 := h9.symm
      subst h9
      refine z_aload_n X dX8_reserve_40 rfl ?_
      refine z_aload_n X dX8_reserve_41 rfl ?_
      refine z_runV X kX8_186 (tX8_rulesAt hS hU (by rw [z_up_ne (by omega)]; exact hnu) (by rw [z_up_ne (by omega)]; exact hmi) hmi2 (zRu_up (by omega) hRu) hO ho9) (zso_1 hS) rfl rfl (Nat.le_of_ble_eq_true rfl) ⟨by decide, by decide⟩ ⟨by decide, by decide⟩ dX8_reserve_42 ?_
      rintro _ g1 s1 ⟨j9, rfl, h8, h9, hj9⟩
      replace h8 := h8.symm
      subst h8
      replace h9 := h9.symm
      subst h9
      have hj7 := zrat_ob hS hU hj9
      refine z_geti X fX8_190 (hj7) rfl dX8_reserve_45 ?_
      refine z_rx ?_
      refine z_iret X (by decide) (by decide) rfl dX8_reserve_48 ?_
      exact ⟨by unfold zx_reserve; rw [if_neg (by simp_all)], rfl, o, k9, j9, ho9, rfl, hk1, hk2, rfl, rfl, hj9, rfl⟩
    · skip
      try simp (disch := omega) only [zb_notn, zb_not, zb_n0, zb_0, Bool.not_eq_false, Bool.not_eq_true, Bool.not_eq_true', Bool.not_eq_false', decide_eq_true_eq, decide_eq_false_iff_not, Classical.not_not] at c_22
      refine z_throw X Y (cls := "java/lang/IndexOutOfBoundsException") (text := "no such office or conference") (names := zENs) (by decide +kernel) (by decide +kernel) (z_gd 248 (by decide +kernel) (by decide +kernel)) (z_gd 40 (by decide +kernel) (by decide +kernel)) (List.mem_of_getElem? (i := 692) (by decide +kernel)) zat_IndexOutOfBoundsException dX8_reserve_25 dX8_reserve_28 dX8_reserve_29 dX8_reserve_31 dX8_reserve_34 (by decide) (by decide) (Nat.le_of_ble_eq_true rfl) (Nat.le_of_ble_eq_true rfl) (Nat.le_of_ble_eq_true rfl) (Nat.le_of_ble_eq_true rfl) ?_
      exact ⟨⟨0, by unfold zx_reserve; simp_all, rfl⟩, rfl, rfl⟩

abbrev NX8_draft : zM := (yX8_draft, cX8_draft, 2, (some .int), 6, 1, 6, 140)
set_option maxHeartbeats 4000000 in
set_option maxRecDepth 100000 in
theorem tX8_draft {l : Launch} {D : va_G} {cy : Nat → ClassId} {z0 : zRg} {g : zSh} {σ : zIn} (hfl : l.stackTraces = false) {ni nd : Nat} (x : Int32) (hS : zS g) (hi : σ 2 4 = nI ni) (hi2 : ni ≤ 30) (hd : σ 11 1 = nI nd) (hd2 : nd ≤ 24) : z_Cx l D cy z0 NX8_draft [.ref (g.2.1 1), .int x] g σ (fun v g' σ' => zx_draft ni nd x = 0 ∧ v = some (.int (nI (nd + 1))) ∧ g' = g ∧ σ' = z_up (z_up σ 12 nd x) 11 1 (nI (nd + 1))) (fun E g' σ' => zXk ["java/lang/IndexOutOfBoundsException", "java/lang/IllegalStateException"] (zx_draft ni nd x) E ∧ g' = g ∧ σ' = σ) := by
  refine z_ofX hfl (by decide) (z_cr (z_ci z_c0)) (Nat.le_of_ble_eq_true rfl) ?_
  intro p e s m args below meth c X Y
  refine z_aload_n X dX8_draft_0 rfl ?_
  refine z_getr2 X fX8_10 (zso_1 hS) (zsr_1_0 hS) rfl dX8_draft_1 ?_
  refine z_iload_n X dX8_draft_4 rfl ?_
  refine z_runV X kX8_88 (tX0_hasIdea _ hS hi hi2) (zso_2 hS) rfl rfl (Nat.le_of_ble_eq_true rfl) ⟨by decide, by decide⟩ ⟨by decide, by decide⟩ dX8_draft_5 ?_
  rintro _ g1 s1 ⟨rfl, h8, h9⟩
  replace h8 := h8.symm
  subst h8
  replace h9 := h9.symm
  subst h9
  refine z_if_ne (tgt := 21) X dX8_draft_8 (by decide) (fun c_8 => ?_) (fun c_8 => ?_)
  · skip
    try simp (disch := omega) only [zb_notn, zb_not, zb_n0, zb_0, Bool.not_eq_false, Bool.not_eq_true, Bool.not_eq_true', Bool.not_eq_false', decide_eq_true_eq, decide_eq_false_iff_not, Classical.not_not] at c_8
    refine z_aload_n X dX8_draft_21 rfl ?_
    refine z_getr2 X fX8_28 (zso_1 hS) (zsr_1_2 hS) rfl dX8_draft_22 ?_
    refine z_iload_n X dX8_draft_25 rfl ?_
    rcases Nat.lt_or_ge nd 24 with h24 | h24
    · skip
      skip
      refine z_runV X kX8_193 (tX2_add _ hS hd h24) (zso_11 hS) rfl rfl (Nat.le_of_ble_eq_true rfl) ⟨by decide, by decide⟩ ⟨by decide, by decide⟩ dX8_draft_26 ?_
      rintro _ g1 s1 ⟨rfl, h8, h9⟩
      replace h8 := h8.symm
      subst h8
      replace h9 := h9.symm
      subst h9
      refine z_if_ne (tgt := 42) X dX8_draft_29 (by decide) (fun c_29 => ?_) (fun c_29 => ?_)
      · skip
        refine z_aload_n X dX8_draft_42 rfl ?_
        refine z_getr2 X fX8_28 (zso_1 hS) (zsr_1_2 hS) rfl dX8_draft_43 ?_
        refine z_geti X fX8_198 (zso_11 hS) rfl dX8_draft_46 ?_
        rw [z_up_app, if_pos rfl, if_pos rfl]
        refine z_rx ?_
        refine z_iret X (by decide) (by decide) rfl dX8_draft_49 ?_
        exact ⟨by unfold zx_draft; rw [if_neg (by simp_all), if_neg (by omega)], rfl, rfl, rfl⟩
      · exact absurd c_29 (by decide)
    · skip
      obtain rfl : nd = 24 := by omega
      refine z_runV X kX8_193 (tX2_addF _ hS hd) (zso_11 hS) rfl rfl (Nat.le_of_ble_eq_true rfl) ⟨by decide, by decide⟩ ⟨by decide, by decide⟩ dX8_draft_26 ?_
      rintro _ g1 s1 ⟨rfl, h8, h9⟩
      replace h8 := h8.symm
      subst h8
      replace h9 := h9.symm
      subst h9
      refine z_if_ne (tgt := 42) X dX8_draft_29 (by decide) (fun c_29 => ?_) (fun c_29 => ?_)
      · exact absurd rfl c_29
      · skip
        refine z_throw X Y (cls := "java/lang/IllegalStateException") (text := "the draft has 24 ideas") (names := zENs) (by decide +kernel) (by decide +kernel) (z_gd 559 (by decide +kernel) (by decide +kernel)) (z_gd 39 (by decide +kernel) (by decide +kernel)) (List.mem_of_getElem? (i := 705) (by decide +kernel)) zat_IllegalStateException dX8_draft_32 dX8_draft_35 dX8_draft_36 dX8_draft_38 dX8_draft_41 (by decide) (by decide) (Nat.le_of_ble_eq_true rfl) (Nat.le_of_ble_eq_true rfl) (Nat.le_of_ble_eq_true rfl) (Nat.le_of_ble_eq_true rfl) ?_
        exact ⟨⟨1, by unfold zx_draft; simp_all, rfl⟩, rfl, rfl⟩
  · skip
    try simp (disch := omega) only [zb_notn, zb_not, zb_n0, zb_0, Bool.not_eq_false, Bool.not_eq_true, Bool.not_eq_true', Bool.not_eq_false', decide_eq_true_eq, decide_eq_false_iff_not, Classical.not_not] at c_8
    refine z_throw X Y (cls := "java/lang/IndexOutOfBoundsException") (text := "no such idea") (names := zENs) (by decide +kernel) (by decide +kernel) (z_gd 248 (by decide +kernel) (by decide +kernel)) (z_gd 40 (by decide +kernel) (by decide +kernel)) (List.mem_of_getElem? (i := 556) (by decide +kernel)) zat_IndexOutOfBoundsException dX8_draft_11 dX8_draft_14 dX8_draft_15 dX8_draft_17 dX8_draft_20 (by decide) (by decide) (Nat.le_of_ble_eq_true rfl) (Nat.le_of_ble_eq_true rfl) (Nat.le_of_ble_eq_true rfl) (Nat.le_of_ble_eq_true rfl) ?_
    exact ⟨⟨0, by unfold zx_draft; simp_all, rfl⟩, rfl, rfl⟩
