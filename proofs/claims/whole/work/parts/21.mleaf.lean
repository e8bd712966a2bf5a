/-! leaf methods of the reference: letters -/
set_option maxHeartbeats 4000000 in
set_option maxRecDepth 100000 in
theorem tX9_in {l : Launch} {D : va_G} {cy : Nat → ClassId} {z0 : Nat} {g : zSh} {σ : zIn} (v lo hi : Int32)  : z_Ct l D cy z0 MX9_in [.int v, .int lo, .int hi] g σ (zI (zb (decide (lo ≤ v ∧ v ≤ hi))) g σ) := by
  refine z_ofM (by decide) (z_ci (z_ci (z_ci z_c0))) (Nat.le_of_ble_eq_true rfl) ?_
  intro p e s m args below meth c X
  refine z_iload_n X dX9_in_0 rfl ?_
  refine z_iload_n X dX9_in_1 rfl ?_
  refine z_icmp_lt (tgt := 14) X dX9_in_2 (by decide) (fun c_2 => ?_) (fun c_2 => ?_)
  · skip
    refine z_iconst (v := 0) X (by decide) dX9_in_14 ?_
    refine z_zret X (by decide) (by decide) rfl (by first | exact Or.inl rfl | exact Or.inr rfl | exact zb_01 _ | assumption) dX9_in_15 ?_
    exact zI_e (by simp_all [zb, ← Int32.not_lt]) rfl rfl
  · skip
    refine z_iload_n X dX9_in_5 rfl ?_
    refine z_iload_n X dX9_in_6 rfl ?_
    refine z_icmp_gt (tgt := 14) X dX9_in_7 (by decide) (fun c_7 => ?_) (fun c_7 => ?_)
    · skip
      refine z_iconst (v := 0) X (by decide) dX9_in_14 ?_
      refine z_zret X (by decide) (by decide) rfl (by first | exact Or.inl rfl | exact Or.inr rfl | exact zb_01 _ | assumption) dX9_in_15 ?_
      exact zI_e (by simp_all [zb, ← Int32.not_lt]) rfl rfl
    · skip
      refine z_iconst (v := 1) X (by decide) dX9_in_10 ?_
      refine z_goto (tgt := 15) X dX9_in_11 (by decide) ?_
      refine z_zret X (by decide) (by decide) rfl (by first | exact Or.inl rfl | exact Or.inr rfl | exact zb_01 _ | assumption) dX9_in_15 ?_
      exact zI_e (by simp_all [zb, ← Int32.not_lt]) rfl rfl

theorem zdd (w k : Nat) : w / 26 ^ k / 26 = w / 26 ^ (k + 1) := by rw [Nat.div_div_eq_div_mul, Nat.pow_succ]
set_option maxHeartbeats 4000000 in
set_option maxRecDepth 100000 in
theorem tX9_letter {l : Launch} {D : va_G} {cy : Nat → ClassId} {z0 : Nat} {g : zSh} {σ : zIn} (w k : Nat) (hw : w < 2 ^ 31) (hk : k < 5) : z_Ct l D cy z0 MX9_letter [.int (nI w), .int (nI k)] g σ (zI (nI (zl (nI w) k)) g σ) := by
  refine z_ofM (by decide) (z_ci (z_ci z_c0)) (Nat.le_of_ble_eq_true rfl) ?_
  intro p e s m args below meth c X
  have loop_4 : ∀ (n : Nat) (i : Nat) (hi1 : k ≤ i) (hi2 : i ≤ 4) (hn : 4 - i < n), z_V p l e (zRm MX9_letter) s m args below meth c 4 D cy z0 0 0 (zQm MX9_letter below D cy z0 (zI (nI (zl (nI w) k)) g σ) args s) 4 [some (.int (nI w)), some (.int (nI k)), some (.int (nI (w / 26 ^ (i - k)))), some (.int (nI i))] [] g σ := by
    intro n
    induction n with
    | zero => intro i hi1 hi2 hn; exact absurd hn (Nat.not_lt_zero _)
    | succ n ih_4 =>
      intro i hi1 hi2 hn
      have hq := Nat.div_le_self w (26 ^ (i - k))
      refine z_iload_n X dX9_letter_4 rfl ?_
      refine z_iconst (v := nI 4) X (by decide) dX9_letter_5 ?_
      refine z_icmp_ge (tgt := 20) X dX9_letter_6 (by decide) (fun c_6 => ?_) (fun c_6 => ?_)
      · skip
        try simp (disch := omega) only [zk0, nI_leI, nI_ltI, nI_eq, zbk_notn, zbk_not, zbk_n0, zbk_0, zb_0, zb_n0, zb_not, zb_notn, Bool.not_eq_false, Bool.not_eq_true, Bool.not_eq_true', Bool.not_eq_false', decide_eq_true_eq, decide_eq_false_iff_not, Classical.not_not] at c_6
        refine z_iload_n X dX9_letter_20 rfl ?_
        refine z_bipush (v := nI 26) X (by decide) dX9_letter_21 ?_
        refine z_iremN X (by omega) (by omega) (by omega) dX9_letter_23 ?_
        refine z_iret X (by decide) (by decide) rfl dX9_letter_24 ?_
        have e : i = 4 := by omega
        subst e
        exact zI_e (by rw [zl_n hw]) rfl rfl
      · skip
        try simp (disch := omega) only [zk0, nI_leI, nI_ltI, nI_eq, zbk_notn, zbk_not, zbk_n0, zbk_0, zb_0, zb_n0, zb_not, zb_notn, Bool.not_eq_false, Bool.not_eq_true, Bool.not_eq_true', Bool.not_eq_false', decide_eq_true_eq, decide_eq_false_iff_not, Classical.not_not] at c_6
        refine z_iload_n X dX9_letter_9 rfl ?_
        refine z_bipush (v := nI 26) X (by decide) dX9_letter_10 ?_
        refine z_idivN X (by omega) (by omega) (by omega) dX9_letter_12 ?_
        refine z_istore_n X dX9_letter_13 (by decide) ?_
        refine z_inc1 X dX9_letter_14 rfl (by decide) ?_
        refine z_goto (tgt := 4) X dX9_letter_17 (by decide) ?_
        have e2 := ih_4 (i + 1) (by omega) (by omega) (by omega)
        rw [show i + 1 - k = i - k + 1 by omega, ← zdd] at e2
        exact e2
  refine z_iload_n X dX9_letter_0 rfl ?_
  refine z_istore_n X dX9_letter_1 (by decide) ?_
  refine z_iload_n X dX9_letter_2 rfl ?_
  refine z_istore_n X dX9_letter_3 (by decide) ?_
  exact (show nI (w / 26 ^ (k - k)) = nI w by rw [Nat.sub_self, Nat.pow_zero, Nat.div_one]) ▸ loop_4 (4 - k + 1) k (Nat.le_refl _) (by omega) (by omega)

set_option maxHeartbeats 4000000 in
set_option maxRecDepth 100000 in
theorem tX9_parts {l : Launch} {D : va_G} {cy : Nat → ClassId} {z0 : Nat} {g : zSh} {σ : zIn} (w v : Nat) (hw : w < 2 ^ 31) (hv : v < 2 ^ 31) : z_Ct l D cy z0 MX9_parts [.int (nI w), .int (nI v)] g σ (zI (nI (zp (nI w) (nI v))) g σ) := by
  refine z_ofM (by decide) (z_ci (z_ci z_c0)) (Nat.le_of_ble_eq_true rfl) ?_
  intro p e s m args below meth c X
  have loop_4 : ∀ (n : Nat) (k : Nat) (hk : k ≤ 5) (hn : 5 - k < n), z_V p l e (zRm MX9_parts) s m args below meth c 4 D cy z0 0 0 (zQm MX9_parts below D cy z0 (zI (nI (zp (nI w) (nI v))) g σ) args s) 4 [some (.int (nI w)), some (.int (nI v)), some (.int (nI (zpk (nI w) (nI v) k))), some (.int (nI k))] [] g σ := by
    intro n
    induction n with
    | zero => intro k hk hn; exact absurd hn (Nat.not_lt_zero _)
    | succ n ih_4 =>
      intro k hk hn
      refine z_iload_n X dX9_parts_4 rfl ?_
      refine z_iconst (v := nI 5) X (by decide) dX9_parts_5 ?_
      refine z_icmp_ge (tgt := 36) X dX9_parts_6 (by decide) (fun c_6 => ?_) (fun c_6 => ?_)
      · skip
        try simp (disch := omega) only [zk0, nI_leI, nI_ltI, nI_eq, zbk_notn, zbk_not, zbk_n0, zbk_0, zb_0, zb_n0, zb_not, zb_notn, Bool.not_eq_false, Bool.not_eq_true, Bool.not_eq_true', Bool.not_eq_false', decide_eq_true_eq, decide_eq_false_iff_not, Classical.not_not] at c_6
        refine z_iload_n X dX9_parts_36 rfl ?_
        refine z_iret X (by decide) (by decide) rfl dX9_parts_37 ?_
        have e : k = 5 := by omega
        subst e
        exact zI_e rfl rfl rfl
      · skip
        try simp (disch := omega) only [zk0, nI_leI, nI_ltI, nI_eq, zbk_notn, zbk_not, zbk_n0, zbk_0, zb_0, zb_n0, zb_not, zb_notn, Bool.not_eq_false, Bool.not_eq_true, Bool.not_eq_true', Bool.not_eq_false', decide_eq_true_eq, decide_eq_false_iff_not, Classical.not_not] at c_6
        refine z_iload_n X dX9_parts_9 rfl ?_
        refine z_iload_n X dX9_parts_10 rfl ?_
        refine z_iload_n X dX9_parts_11 rfl ?_
        refine z_runS X kX9_143 (tX9_letter w k hw (by omega)) rfl rfl (Nat.le_of_ble_eq_true rfl) ⟨by decide, by decide⟩ ⟨by decide, by decide⟩ dX9_parts_12 ?_
        rintro _ g1 s1 ⟨rfl, h8, h9⟩
        replace h8 := h8.symm
        subst h8
        replace h9 := h9.symm
        subst h9
        refine z_iload_n X dX9_parts_15 rfl ?_
        refine z_iload_n X dX9_parts_16 rfl ?_
        refine z_runS X kX9_143 (tX9_letter v k hv (by omega)) rfl rfl (Nat.le_of_ble_eq_true rfl) ⟨by decide, by decide⟩ ⟨by decide, by decide⟩ dX9_parts_17 ?_
        rintro _ g1 s1 ⟨rfl, h8, h9⟩
        replace h8 := h8.symm
        subst h8
        replace h9 := h9.symm
        subst h9
        have hl1 := zl_lt (nI w) k
        have hl2 := zl_lt (nI v) k
        refine z_icmp_ne (tgt := 27) X dX9_parts_20 (by decide) (fun c_20 => ?_) (fun c_20 => ?_)
        · skip
          try simp (disch := omega) only [zk0, nI_leI, nI_ltI, nI_eq, zbk_notn, zbk_not, zbk_n0, zbk_0, zb_0, zb_n0, zb_not, zb_notn, Bool.not_eq_false, Bool.not_eq_true, Bool.not_eq_true', Bool.not_eq_false', decide_eq_true_eq, decide_eq_false_iff_not, Classical.not_not] at c_20
          refine z_iconst (v := nI 1) X (by decide) dX9_parts_27 ?_
          refine z_iaddN X dX9_parts_28 ?_
          refine z_istore_n X dX9_parts_29 (by decide) ?_
          refine z_inc1 X dX9_parts_30 rfl (by decide) ?_
          refine z_goto (tgt := 4) X dX9_parts_33 (by decide) ?_
          have e2 := ih_4 (k + 1) (by omega) (by omega)
          first | (rw [zpk_y c_20] at e2; exact e2) | (rw [zpk_n c_20] at e2; exact e2)
        · skip
          try simp (disch := omega) only [zk0, nI_leI, nI_ltI, nI_eq, zbk_notn, zbk_not, zbk_n0, zbk_0, zb_0, zb_n0, zb_not, zb_notn, Bool.not_eq_false, Bool.not_eq_true, Bool.not_eq_true', Bool.not_eq_false', decide_eq_true_eq, decide_eq_false_iff_not, Classical.not_not] at c_20
          refine z_iconst (v := nI 0) X (by decide) dX9_parts_23 ?_
          refine z_goto (tgt := 28) X dX9_parts_24 (by decide) ?_
          refine z_iaddN X dX9_parts_28 ?_
          refine z_istore_n X dX9_parts_29 (by decide) ?_
          refine z_inc1 X dX9_parts_30 rfl (by decide) ?_
          refine z_goto (tgt := 4) X dX9_parts_33 (by decide) ?_
          have e2 := ih_4 (k + 1) (by omega) (by omega)
          first | (rw [zpk_y c_20] at e2; exact e2) | (rw [zpk_n c_20] at e2; exact e2)
  refine z_iconst (v := nI 0) X (by decide) dX9_parts_0 ?_
  refine z_istore_n X dX9_parts_1 (by decide) ?_
  refine z_iconst (v := nI 0) X (by decide) dX9_parts_2 ?_
  refine z_istore_n X dX9_parts_3 (by decide) ?_
  exact loop_4 (5 - 0 + 1) 0 (by omega) (by omega)

set_option maxHeartbeats 4000000 in
set_option maxRecDepth 100000 in
theorem tX9_vowelsOf {l : Launch} {D : va_G} {cy : Nat → ClassId} {z0 : Nat} {g : zSh} {σ : zIn} (w : Nat) (hw : w < 2 ^ 31) : z_Ct l D cy z0 MX9_vowelsOf [.int (nI w)] g σ (zI (nI (zvw (nI w))) g σ) := by
  refine z_ofM (by decide) (z_ci z_c0) (Nat.le_of_ble_eq_true rfl) ?_
  intro p e s m args below meth c X
  have loop_4 : ∀ (n : Nat) (k : Nat) (vv : Option Value) (hk : k ≤ 5) (hn : 5 - k < n), z_V p l e (zRm MX9_vowelsOf) s m args below meth c 4 D cy z0 0 0 (zQm MX9_vowelsOf below D cy z0 (zI (nI (zvw (nI w))) g σ) args s) 4 [some (.int (nI w)), some (.int (nI (zvk (nI w) k))), some (.int (nI k)), vv] [] g σ := by
    intro n
    induction n with
    | zero => intro k vv hk hn; exact absurd hn (Nat.not_lt_zero _)
    | succ n ih_4 =>
      intro k vv hk hn
      refine z_iload_n X dX9_vowelsOf_4 rfl ?_
      refine z_iconst (v := nI 5) X (by decide) dX9_vowelsOf_5 ?_
      refine z_icmp_ge (tgt := 62) X dX9_vowelsOf_6 (by decide) (fun c_6 => ?_) (fun c_6 => ?_)
      · skip
        try simp (disch := omega) only [zk0, nI_leI, nI_ltI, nI_eq, zbk_notn, zbk_not, zbk_n0, zbk_0, zb_0, zb_n0, zb_not, zb_notn, Bool.not_eq_false, Bool.not_eq_true, Bool.not_eq_true', Bool.not_eq_false', decide_eq_true_eq, decide_eq_false_iff_not, Classical.not_not] at c_6
        refine z_iload_n X dX9_vowelsOf_62 rfl ?_
        refine z_iret X (by decide) (by decide) rfl dX9_vowelsOf_63 ?_
        have e : k = 5 := by omega
        subst e
        exact zI_e rfl rfl rfl
      · skip
        try simp (disch := omega) only [zk0, nI_leI, nI_ltI, nI_eq, zbk_notn, zbk_not, zbk_n0, zbk_0, zb_0, zb_n0, zb_not, zb_notn, Bool.not_eq_false, Bool.not_eq_true, Bool.not_eq_true', Bool.not_eq_false', decide_eq_true_eq, decide_eq_false_iff_not, Classical.not_not] at c_6
        refine z_iload_n X dX9_vowelsOf_9 rfl ?_
        refine z_iload_n X dX9_vowelsOf_10 rfl ?_
        refine z_runS X kX9_143 (tX9_letter w k hw (by omega)) rfl rfl (Nat.le_of_ble_eq_true rfl) ⟨by decide, by decide⟩ ⟨by decide, by decide⟩ dX9_vowelsOf_11 ?_
        rintro _ g1 s1 ⟨rfl, h8, h9⟩
        replace h8 := h8.symm
        subst h8
        replace h9 := h9.symm
        subst h9
        refine z_bipush (v := nI 97) X (by decide) dX9_vowelsOf_14 ?_
        refine z_iaddN X dX9_vowelsOf_16 ?_
        refine z_istore_n X dX9_vowelsOf_17 (by decide) ?_
        have hlt := zl_lt (nI w) k
        refine z_iload_n X dX9_vowelsOf_18 rfl ?_
        refine z_iload_n X dX9_vowelsOf_19 rfl ?_
        refine z_bipush (v := nI 97) X (by decide) dX9_vowelsOf_20 ?_
        refine z_icmp_eq (tgt := 49) X dX9_vowelsOf_22 (by decide) (fun c_22 => ?_) (fun c_22 => ?_)
        · skip
          try simp (disch := omega) only [zk0, nI_leI, nI_ltI, nI_eq, zbk_notn, zbk_not, zbk_n0, zbk_0, zb_0, zb_n0, zb_not, zb_notn, Bool.not_eq_false, Bool.not_eq_true, Bool.not_eq_true', Bool.not_eq_false', decide_eq_true_eq, decide_eq_false_iff_not, Classical.not_not] at c_22
          refine z_iconst (v := nI 1) X (by decide) dX9_vowelsOf_49 ?_
          refine z_goto (tgt := 54) X dX9_vowelsOf_50 (by decide) ?_
          refine z_iaddN X dX9_vowelsOf_54 ?_
          refine z_istore_n X dX9_vowelsOf_55 (by decide) ?_
          refine z_inc1 X dX9_vowelsOf_56 rfl (by decide) ?_
          refine z_goto (tgt := 4) X dX9_vowelsOf_59 (by decide) ?_
          have e2 := fun vv => ih_4 (k + 1) vv (by omega) (by omega)
          first | (rw [zvk_y (by simp only [zvl, decide_eq_true_eq]; omega)] at e2; exact e2 _) | (rw [zvk_n (by simp only [zvl, decide_eq_false_iff_not]; omega)] at e2; exact e2 _)
        · skip
          try simp (disch := omega) only [zk0, nI_leI, nI_ltI, nI_eq, zbk_notn, zbk_not, zbk_n0, zbk_0, zb_0, zb_n0, zb_not, zb_notn, Bool.not_eq_false, Bool.not_eq_true, Bool.not_eq_true', Bool.not_eq_false', decide_eq_true_eq, decide_eq_false_iff_not, Classical.not_not] at c_22
          refine z_iload_n X dX9_vowelsOf_25 rfl ?_
          refine z_bipush (v := nI 101) X (by decide) dX9_vowelsOf_26 ?_
          refine z_icmp_eq (tgt := 49) X dX9_vowelsOf_28 (by decide) (fun c_28 => ?_) (fun c_28 => ?_)
          · skip
            try simp (disch := omega) only [zk0, nI_leI, nI_ltI, nI_eq, zbk_notn, zbk_not, zbk_n0, zbk_0, zb_0, zb_n0, zb_not, zb_notn, Bool.not_eq_false, Bool.not_eq_true, Bool.not_eq_true', Bool.not_eq_false', decide_eq_true_eq, decide_eq_false_iff_not, Classical.not_not] at c_28
            refine z_iconst (v := nI 1) X (by decide) dX9_vowelsOf_49 ?_
            refine z_goto (tgt := 54) X dX9_vowelsOf_50 (by decide) ?_
            refine z_iaddN X dX9_vowelsOf_54 ?_
            refine z_istore_n X dX9_vowelsOf_55 (by decide) ?_
            refine z_inc1 X dX9_vowelsOf_56 rfl (by decide) ?_
            refine z_goto (tgt := 4) X dX9_vowelsOf_59 (by decide) ?_
            have e2 := fun vv => ih_4 (k + 1) vv (by omega) (by omega)
            first | (rw [zvk_y (by simp only [zvl, decide_eq_true_eq]; omega)] at e2; exact e2 _) | (rw [zvk_n (by simp only [zvl, decide_eq_false_iff_not]; omega)] at e2; exact e2 _)
          · skip
            try simp (disch := omega) only [zk0, nI_leI, nI_ltI, nI_eq, zbk_notn, zbk_not, zbk_n0, zbk_0, zb_0, zb_n0, zb_not, zb_notn, Bool.not_eq_false, Bool.not_eq_true, Bool.not_eq_true', Bool.not_eq_false', decide_eq_true_eq, decide_eq_false_iff_not, Classical.not_not] at c_28
            refine z_iload_n X dX9_vowelsOf_31 rfl ?_
            refine z_bipush (v := nI 105) X (by decide) dX9_vowelsOf_32 ?_
            refine z_icmp_eq (tgt := 49) X dX9_vowelsOf_34 (by decide) (fun c_34 => ?_) (fun c_34 => ?_)
            · skip
              try simp (disch := omega) only [zk0, nI_leI, nI_ltI, nI_eq, zbk_notn, zbk_not, zbk_n0, zbk_0, zb_0, zb_n0, zb_not, zb_notn, Bool.not_eq_false, Bool.not_eq_true, Bool.not_eq_true', Bool.not_eq_false', decide_eq_true_eq, decide_eq_false_iff_not, Classical.not_not] at c_34
              refine z_iconst (v := nI 1) X (by decide) dX9_vowelsOf_49 ?_
              refine z_goto (tgt := 54) X dX9_vowelsOf_50 (by decide) ?_
              refine z_iaddN X dX9_vowelsOf_54 ?_
              refine z_istore_n X dX9_vowelsOf_55 (by decide) ?_
              refine z_inc1 X dX9_vowelsOf_56 rfl (by decide) ?_
              refine z_goto (tgt := 4) X dX9_vowelsOf_59 (by decide) ?_
              have e2 := fun vv => ih_4 (k + 1) vv (by omega) (by omega)
              first | (rw [zvk_y (by simp only [zvl, decide_eq_true_eq]; omega)] at e2; exact e2 _) | (rw [zvk_n (by simp only [zvl, decide_eq_false_iff_not]; omega)] at e2; exact e2 _)
            · skip
              try simp (disch := omega) only [zk0, nI_leI, nI_ltI, nI_eq, zbk_notn, zbk_not, zbk_n0, zbk_0, zb_0, zb_n0, zb_not, zb_notn, Bool.not_eq_false, Bool.not_eq_true, Bool.not_eq_true', Bool.not_eq_false', decide_eq_true_eq, decide_eq_false_iff_not, Classical.not_not] at c_34
              refine z_iload_n X dX9_vowelsOf_37 rfl ?_
              refine z_bipush (v := nI 111) X (by decide) dX9_vowelsOf_38 ?_
              refine z_icmp_eq (tgt := 49) X dX9_vowelsOf_40 (by decide) (fun c_40 => ?_) (fun c_40 => ?_)
              · skip
                try simp (disch := omega) only [zk0, nI_leI, nI_ltI, nI_eq, zbk_notn, zbk_not, zbk_n0, zbk_0, zb_0, zb_n0, zb_not, zb_notn, Bool.not_eq_false, Bool.not_eq_true, Bool.not_eq_true', Bool.not_eq_false', decide_eq_true_eq, decide_eq_false_iff_not, Classical.not_not] at c_40
                refine z_iconst (v := nI 1) X (by decide) dX9_vowelsOf_49 ?_
                refine z_goto (tgt := 54) X dX9_vowelsOf_50 (by decide) ?_
                refine z_iaddN X dX9_vowelsOf_54 ?_
                refine z_istore_n X dX9_vowelsOf_55 (by decide) ?_
                refine z_inc1 X dX9_vowelsOf_56 rfl (by decide) ?_
                refine z_goto (tgt := 4) X dX9_vowelsOf_59 (by decide) ?_
                have e2 := fun vv => ih_4 (k + 1) vv (by omega) (by omega)
                first | (rw [zvk_y (by simp only [zvl, decide_eq_true_eq]; omega)] at e2; exact e2 _) | (rw [zvk_n (by simp only [zvl, decide_eq_false_iff_not]; omega)] at e2; exact e2 _)
              · skip
                try simp (disch := omega) only [zk0, nI_leI, nI_ltI, nI_eq, zbk_notn, zbk_not, zbk_n0, zbk_0, zb_0, zb_n0, zb_not, zb_notn, Bool.not_eq_false, Bool.not_eq_true, Bool.not_eq_true', Bool.not_eq_false', decide_eq_true_eq, decide_eq_false_iff_not, Classical.not_not] at c_40
                refine z_iload_n X dX9_vowelsOf_43 rfl ?_
                refine z_bipush (v := nI 117) X (by decide) dX9_vowelsOf_44 ?_
                refine z_icmp_ne (tgt := 53) X dX9_vowelsOf_46 (by decide) (fun c_46 => ?_) (fun c_46 => ?_)
                · skip
                  try simp (disch := omega) only [zk0, nI_leI, nI_ltI, nI_eq, zbk_notn, zbk_not, zbk_n0, zbk_0, zb_0, zb_n0, zb_not, zb_notn, Bool.not_eq_false, Bool.not_eq_true, Bool.not_eq_true', Bool.not_eq_false', decide_eq_true_eq, decide_eq_false_iff_not, Classical.not_not] at c_46
                  refine z_iconst (v := nI 0) X (by decide) dX9_vowelsOf_53 ?_
                  refine z_iaddN X dX9_vowelsOf_54 ?_
                  refine z_istore_n X dX9_vowelsOf_55 (by decide) ?_
                  refine z_inc1 X dX9_vowelsOf_56 rfl (by decide) ?_
                  refine z_goto (tgt := 4) X dX9_vowelsOf_59 (by decide) ?_
                  have e2 := fun vv => ih_4 (k + 1) vv (by omega) (by omega)
                  first | (rw [zvk_y (by simp only [zvl, decide_eq_true_eq]; omega)] at e2; exact e2 _) | (rw [zvk_n (by simp only [zvl, decide_eq_false_iff_not]; omega)] at e2; exact e2 _)
                · skip
                  try simp (disch := omega) only [zk0, nI_leI, nI_ltI, nI_eq, zbk_notn, zbk_not, zbk_n0, zbk_0, zb_0, zb_n0, zb_not, zb_notn, Bool.not_eq_false, Bool.not_eq_true, Bool.not_eq_true', Bool.not_eq_false', decide_eq_true_eq, decide_eq_false_iff_not, Classical.not_not] at c_46
                  refine z_iconst (v := nI 1) X (by decide) dX9_vowelsOf_49 ?_
                  refine z_goto (tgt := 54) X dX9_vowelsOf_50 (by decide) ?_
                  refine z_iaddN X dX9_vowelsOf_54 ?_
                  refine z_istore_n X dX9_vowelsOf_55 (by decide) ?_
                  refine z_inc1 X dX9_vowelsOf_56 rfl (by decide) ?_
                  refine z_goto (tgt := 4) X dX9_vowelsOf_59 (by decide) ?_
                  have e2 := fun vv => ih_4 (k + 1) vv (by omega) (by omega)
                  first | (rw [zvk_y (by simp only [zvl, decide_eq_true_eq]; omega)] at e2; exact e2 _) | (rw [zvk_n (by simp only [zvl, decide_eq_false_iff_not]; omega)] at e2; exact e2 _)
  refine z_iconst (v := nI 0) X (by decide) dX9_vowelsOf_0 ?_
  refine z_istore_n X dX9_vowelsOf_1 (by decide) ?_
  refine z_iconst (v := nI 0) X (by decide) dX9_vowelsOf_2 ?_
  refine z_istore_n X dX9_vowelsOf_3 (by decide) ?_
  exact loop_4 (5 - 0 + 1) 0 none (by omega) (by omega)

set_option maxHeartbeats 4000000 in
set_option maxRecDepth 100000 in
theorem tX9_isTurned {l : Launch} {D : va_G} {cy : Nat → ClassId} {z0 : Nat} {g : zSh} {σ : zIn} (w v : Nat) (hw : w < 2 ^ 31) (hv : v < 2 ^ 31) : z_Ct l D cy z0 MX9_isTurned [.int (nI w), .int (nI v)] g σ (zT (nI w) (nI v) g σ) := by
  refine z_ofM (by decide) (z_ci (z_ci z_c0)) (Nat.le_of_ble_eq_true rfl) ?_
  intro p e s m args below meth c X
  have hpp : zp (nI w) (nI v) ≤ 5 := zpk_le (nI w) (nI v) 5
  have loop_4 : ∀ (n : Nat) (k : Nat) (b : Bool) (vv : Option Value) (hk : k ≤ 4) (hb : b = true ↔ (zp (nI w) (nI v) = 2 ∧ ∃ j, j < k ∧ ztn (nI w) (nI v) j)) (hn : 4 - k < n), z_V p l e (zRm MX9_isTurned) s m args below meth c 5 D cy z0 0 0 (zQm MX9_isTurned below D cy z0 (zT (nI w) (nI v) g σ) args s) 4 [some (.int (nI w)), some (.int (nI v)), some (.int (zb b)), some (.int (nI k)), vv] [] g σ := by
    intro n
    induction n with
    | zero => intro k b vv hk hb hn; exact absurd hn (Nat.not_lt_zero _)
    | succ n ih_4 =>
      intro k b vv hk hb hn
      have hl1 := zl_lt (nI w) k
      have hl2 := zl_lt (nI v) (k + 1)
      have hl3 := zl_lt (nI w) (k + 1)
      have hl4 := zl_lt (nI v) k
      refine z_iload_n X dX9_isTurned_4 rfl ?_
      refine z_iconst (v := nI 4) X (by decide) dX9_isTurned_5 ?_
      refine z_icmp_ge (tgt := 89) X dX9_isTurned_6 (by decide) (fun c_6 => ?_) (fun c_6 => ?_)
      · skip
        try simp (disch := omega) only [zk0, nI_leI, nI_ltI, nI_eq, zbk_notn, zbk_not, zbk_n0, zbk_0, zb_0, zb_n0, zb_not, zb_notn, Bool.not_eq_false, Bool.not_eq_true, Bool.not_eq_true', Bool.not_eq_false', decide_eq_true_eq, decide_eq_false_iff_not, Classical.not_not] at c_6
        refine z_iload_n X dX9_isTurned_89 rfl ?_
        refine z_zret X (by decide) (by decide) rfl (by first | exact Or.inl rfl | exact Or.inr rfl | exact zb_01 _ | assumption) dX9_isTurned_90 ?_
        have e : k = 4 := by omega
        subst e
        exact ⟨b, rfl, rfl, rfl, hb⟩
      · skip
        try simp (disch := omega) only [zk0, nI_leI, nI_ltI, nI_eq, zbk_notn, zbk_not, zbk_n0, zbk_0, zb_0, zb_n0, zb_not, zb_notn, Bool.not_eq_false, Bool.not_eq_true, Bool.not_eq_true', Bool.not_eq_false', decide_eq_true_eq, decide_eq_false_iff_not, Classical.not_not] at c_6
        refine z_iload_n X dX9_isTurned_9 rfl ?_
        refine z_iload_n X dX9_isTurned_10 rfl ?_
        refine z_runS X kX9_143 (tX9_letter w k hw (by omega)) rfl rfl (Nat.le_of_ble_eq_true rfl) ⟨by decide, by decide⟩ ⟨by decide, by decide⟩ dX9_isTurned_11 ?_
        rintro _ g1 s1 ⟨rfl, h8, h9⟩
        replace h8 := h8.symm
        subst h8
        replace h9 := h9.symm
        subst h9
        refine z_iload_n X dX9_isTurned_14 rfl ?_
        refine z_iload_n X dX9_isTurned_15 rfl ?_
        refine z_iconst (v := nI 1) X (by decide) dX9_isTurned_16 ?_
        refine z_iaddN X dX9_isTurned_17 ?_
        refine z_runS X kX9_143 (tX9_letter v (k + 1) hv (by omega)) rfl rfl (Nat.le_of_ble_eq_true rfl) ⟨by decide, by decide⟩ ⟨by decide, by decide⟩ dX9_isTurned_18 ?_
        rintro _ g1 s1 ⟨rfl, h8, h9⟩
        replace h8 := h8.symm
        subst h8
        replace h9 := h9.symm
        subst h9
        refine z_icmp_ne (tgt := 43) X dX9_isTurned_21 (by decide) (fun c_21 => ?_) (fun c_21 => ?_)
        · skip
          try simp (disch := omega) only [zk0, nI_leI, nI_ltI, nI_eq, zbk_notn, zbk_not, zbk_n0, zbk_0, zb_0, zb_n0, zb_not, zb_notn, Bool.not_eq_false, Bool.not_eq_true, Bool.not_eq_true', Bool.not_eq_false', decide_eq_true_eq, decide_eq_false_iff_not, Classical.not_not] at c_21
          refine z_iconst (v := nI 0) X (by decide) dX9_isTurned_43 ?_
          refine z_istore X dX9_isTurned_44 (by decide) ?_
          refine z_iload_n X dX9_isTurned_46 rfl ?_
          refine z_if_ne (tgt := 77) X dX9_isTurned_47 (by decide) (fun c_47 => ?_) (fun c_47 => ?_)
          · skip
            try simp (disch := omega) only [zk0, nI_leI, nI_ltI, nI_eq, zbk_notn, zbk_not, zbk_n0, zbk_0, zb_0, zb_n0, zb_not, zb_notn, Bool.not_eq_false, Bool.not_eq_true, Bool.not_eq_true', Bool.not_eq_false', decide_eq_true_eq, decide_eq_false_iff_not, Classical.not_not] at c_47
            refine z_iconst (v := nI 1) X (by decide) dX9_isTurned_77 ?_
            refine z_goto (tgt := 82) X dX9_isTurned_78 (by decide) ?_
            refine z_istore_n X dX9_isTurned_82 (by decide) ?_
            refine z_inc1 X dX9_isTurned_83 rfl (by decide) ?_
            refine z_goto (tgt := 4) X dX9_isTurned_86 (by decide) ?_
            first
              | (exfalso; omega)
              | exact absurd trivial c_52
              | exact ih_4 (k + 1) true _ (by omega) ⟨fun _ => (by obtain ⟨h1, j, h2, h3⟩ := hb.mp (by assumption); exact ⟨h1, j, by omega, h3⟩), fun _ => rfl⟩ (by omega)
              | exact ih_4 (k + 1) true _ (by omega) ⟨fun _ => ⟨by assumption, k, by omega, by assumption, by assumption, by assumption⟩, fun _ => rfl⟩ (by omega)
              | exact ih_4 (k + 1) false _ (by omega) ⟨fun h => (by cases h), fun h => (by
                  obtain ⟨h1, j, h2, h3⟩ := h
                  by_cases e : j = k
                  · subst e; obtain ⟨q1, q2, q3⟩ := h3; first | (exfalso; omega) | exact absurd q1 (by assumption) | exact absurd q2 (by assumption) | exact absurd (by assumption) q3 | exact absurd h1 (by assumption)
                  · have hq := hb.mpr ⟨h1, j, by omega, h3⟩
                    subst hq
                    first | simp_all | cases ‹true = false›)⟩ (by omega)
          · skip
            try simp (disch := omega) only [zk0, nI_leI, nI_ltI, nI_eq, zbk_notn, zbk_not, zbk_n0, zbk_0, zb_0, zb_n0, zb_not, zb_notn, Bool.not_eq_false, Bool.not_eq_true, Bool.not_eq_true', Bool.not_eq_false', decide_eq_true_eq, decide_eq_false_iff_not, Classical.not_not] at c_47
            refine z_iload X dX9_isTurned_50 rfl ?_
            refine z_if_eq (tgt := 81) X dX9_isTurned_52 (by decide) (fun c_52 => ?_) (fun c_52 => ?_)
            · skip
              refine z_iconst (v := nI 0) X (by decide) dX9_isTurned_81 ?_
              refine z_istore_n X dX9_isTurned_82 (by decide) ?_
              refine z_inc1 X dX9_isTurned_83 rfl (by decide) ?_
              refine z_goto (tgt := 4) X dX9_isTurned_86 (by decide) ?_
              first
                | (exfalso; omega)
                | exact absurd trivial c_52
                | exact ih_4 (k + 1) true _ (by omega) ⟨fun _ => (by obtain ⟨h1, j, h2, h3⟩ := hb.mp (by assumption); exact ⟨h1, j, by omega, h3⟩), fun _ => rfl⟩ (by omega)
                | exact ih_4 (k + 1) true _ (by omega) ⟨fun _ => ⟨by assumption, k, by omega, by assumption, by assumption, by assumption⟩, fun _ => rfl⟩ (by omega)
                | exact ih_4 (k + 1) false _ (by omega) ⟨fun h => (by cases h), fun h => (by
                    obtain ⟨h1, j, h2, h3⟩ := h
                    by_cases e : j = k
                    · subst e; obtain ⟨q1, q2, q3⟩ := h3; first | (exfalso; omega) | exact absurd q1 (by assumption) | exact absurd q2 (by assumption) | exact absurd (by assumption) q3 | exact absurd h1 (by assumption)
                    · have hq := hb.mpr ⟨h1, j, by omega, h3⟩
                      subst hq
                      first | simp_all | cases ‹true = false›)⟩ (by omega)
            · first | exact absurd c_52 (by decide) | exact absurd (by decide) c_52
        · skip
          try simp (disch := omega) only [zk0, nI_leI, nI_ltI, nI_eq, zbk_notn, zbk_not, zbk_n0, zbk_0, zb_0, zb_n0, zb_not, zb_notn, Bool.not_eq_false, Bool.not_eq_true, Bool.not_eq_true', Bool.not_eq_false', decide_eq_true_eq, decide_eq_false_iff_not, Classical.not_not] at c_21
          refine z_iload_n X dX9_isTurned_24 rfl ?_
          refine z_iload_n X dX9_isTurned_25 rfl ?_
          refine z_iconst (v := nI 1) X (by decide) dX9_isTurned_26 ?_
          refine z_iaddN X dX9_isTurned_27 ?_
          refine z_runS X kX9_143 (tX9_letter w (k + 1) hw (by omega)) rfl rfl (Nat.le_of_ble_eq_true rfl) ⟨by decide, by decide⟩ ⟨by decide, by decide⟩ dX9_isTurned_28 ?_
          rintro _ g1 s1 ⟨rfl, h8, h9⟩
          replace h8 := h8.symm
          subst h8
          replace h9 := h9.symm
          subst h9
          refine z_iload_n X dX9_isTurned_31 rfl ?_
          refine z_iload_n X dX9_isTurned_32 rfl ?_
          refine z_runS X kX9_143 (tX9_letter v k hv (by omega)) rfl rfl (Nat.le_of_ble_eq_true rfl) ⟨by decide, by decide⟩ ⟨by decide, by decide⟩ dX9_isTurned_33 ?_
          rintro _ g1 s1 ⟨rfl, h8, h9⟩
          replace h8 := h8.symm
          subst h8
          replace h9 := h9.symm
          subst h9
          refine z_icmp_ne (tgt := 43) X dX9_isTurned_36 (by decide) (fun c_36 => ?_) (fun c_36 => ?_)
          · skip
            try simp (disch := omega) only [zk0, nI_leI, nI_ltI, nI_eq, zbk_notn, zbk_not, zbk_n0, zbk_0, zb_0, zb_n0, zb_not, zb_notn, Bool.not_eq_false, Bool.not_eq_true, Bool.not_eq_true', Bool.not_eq_false', decide_eq_true_eq, decide_eq_false_iff_not, Classical.not_not] at c_36
            refine z_iconst (v := nI 0) X (by decide) dX9_isTurned_43 ?_
            refine z_istore X dX9_isTurned_44 (by decide) ?_
            refine z_iload_n X dX9_isTurned_46 rfl ?_
            refine z_if_ne (tgt := 77) X dX9_isTurned_47 (by decide) (fun c_47 => ?_) (fun c_47 => ?_)
            · skip
              try simp (disch := omega) only [zk0, nI_leI, nI_ltI, nI_eq, zbk_notn, zbk_not, zbk_n0, zbk_0, zb_0, zb_n0, zb_not, zb_notn, Bool.not_eq_false, Bool.not_eq_true, Bool.not_eq_true', Bool.not_eq_false', decide_eq_true_eq, decide_eq_false_iff_not, Classical.not_not] at c_47
              refine z_iconst (v := nI 1) X (by decide) dX9_isTurned_77 ?_
              refine z_goto (tgt := 82) X dX9_isTurned_78 (by decide) ?_
              refine z_istore_n X dX9_isTurned_82 (by decide) ?_
              refine z_inc1 X dX9_isTurned_83 rfl (by decide) ?_
              refine z_goto (tgt := 4) X dX9_isTurned_86 (by decide) ?_
              first
                | (exfalso; omega)
                | exact absurd trivial c_52
                | exact ih_4 (k + 1) true _ (by omega) ⟨fun _ => (by obtain ⟨h1, j, h2, h3⟩ := hb.mp (by assumption); exact ⟨h1, j, by omega, h3⟩), fun _ => rfl⟩ (by omega)
                | exact ih_4 (k + 1) true _ (by omega) ⟨fun _ => ⟨by assumption, k, by omega, by assumption, by assumption, by assumption⟩, fun _ => rfl⟩ (by omega)
                | exact ih_4 (k + 1) false _ (by omega) ⟨fun h => (by cases h), fun h => (by
                    obtain ⟨h1, j, h2, h3⟩ := h
                    by_cases e : j = k
                    · subst e; obtain ⟨q1, q2, q3⟩ := h3; first | (exfalso; omega) | exact absurd q1 (by assumption) | exact absurd q2 (by assumption) | exact absurd (by assumption) q3 | exact absurd h1 (by assumption)
                    · have hq := hb.mpr ⟨h1, j, by omega, h3⟩
                      subst hq
                      first | simp_all | cases ‹true = false›)⟩ (by omega)
            · skip
              try simp (disch := omega) only [zk0, nI_leI, nI_ltI, nI_eq, zbk_notn, zbk_not, zbk_n0, zbk_0, zb_0, zb_n0, zb_not, zb_notn, Bool.not_eq_false, Bool.not_eq_true, Bool.not_eq_true', Bool.not_eq_false', decide_eq_true_eq, decide_eq_false_iff_not, Classical.not_not] at c_47
              refine z_iload X dX9_isTurned_50 rfl ?_
              refine z_if_eq (tgt := 81) X dX9_isTurned_52 (by decide) (fun c_52 => ?_) (fun c_52 => ?_)
              · skip
                refine z_iconst (v := nI 0) X (by decide) dX9_isTurned_81 ?_
                refine z_istore_n X dX9_isTurned_82 (by decide) ?_
                refine z_inc1 X dX9_isTurned_83 rfl (by decide) ?_
                refine z_goto (tgt := 4) X dX9_isTurned_86 (by decide) ?_
                first
                  | (exfalso; omega)
                  | exact absurd trivial c_52
                  | exact ih_4 (k + 1) true _ (by omega) ⟨fun _ => (by obtain ⟨h1, j, h2, h3⟩ := hb.mp (by assumption); exact ⟨h1, j, by omega, h3⟩), fun _ => rfl⟩ (by omega)
                  | exact ih_4 (k + 1) true _ (by omega) ⟨fun _ => ⟨by assumption, k, by omega, by assumption, by assumption, by assumption⟩, fun _ => rfl⟩ (by omega)
                  | exact ih_4 (k + 1) false _ (by omega) ⟨fun h => (by cases h), fun h => (by
                      obtain ⟨h1, j, h2, h3⟩ := h
                      by_cases e : j = k
                      · subst e; obtain ⟨q1, q2, q3⟩ := h3; first | (exfalso; omega) | exact absurd q1 (by assumption) | exact absurd q2 (by assumption) | exact absurd (by assumption) q3 | exact absurd h1 (by assumption)
                      · have hq := hb.mpr ⟨h1, j, by omega, h3⟩
                        subst hq
                        first | simp_all | cases ‹true = false›)⟩ (by omega)
              · first | exact absurd c_52 (by decide) | exact absurd (by decide) c_52
          · skip
            try simp (disch := omega) only [zk0, nI_leI, nI_ltI, nI_eq, zbk_notn, zbk_not, zbk_n0, zbk_0, zb_0, zb_n0, zb_not, zb_notn, Bool.not_eq_false, Bool.not_eq_true, Bool.not_eq_true', Bool.not_eq_false', decide_eq_true_eq, decide_eq_false_iff_not, Classical.not_not] at c_36
            refine z_iconst (v := nI 1) X (by decide) dX9_isTurned_39 ?_
            refine z_goto (tgt := 44) X dX9_isTurned_40 (by decide) ?_
            refine z_istore X dX9_isTurned_44 (by decide) ?_
            refine z_iload_n X dX9_isTurned_46 rfl ?_
            refine z_if_ne (tgt := 77) X dX9_isTurned_47 (by decide) (fun c_47 => ?_) (fun c_47 => ?_)
            · skip
              try simp (disch := omega) only [zk0, nI_leI, nI_ltI, nI_eq, zbk_notn, zbk_not, zbk_n0, zbk_0, zb_0, zb_n0, zb_not, zb_notn, Bool.not_eq_false, Bool.not_eq_true, Bool.not_eq_true', Bool.not_eq_false', decide_eq_true_eq, decide_eq_false_iff_not, Classical.not_not] at c_47
              refine z_iconst (v := nI 1) X (by decide) dX9_isTurned_77 ?_
              refine z_goto (tgt := 82) X dX9_isTurned_78 (by decide) ?_
              refine z_istore_n X dX9_isTurned_82 (by decide) ?_
              refine z_inc1 X dX9_isTurned_83 rfl (by decide) ?_
              refine z_goto (tgt := 4) X dX9_isTurned_86 (by decide) ?_
              first
                | (exfalso; omega)
                | exact absurd trivial c_52
                | exact ih_4 (k + 1) true _ (by omega) ⟨fun _ => (by obtain ⟨h1, j, h2, h3⟩ := hb.mp (by assumption); exact ⟨h1, j, by omega, h3⟩), fun _ => rfl⟩ (by omega)
                | exact ih_4 (k + 1) true _ (by omega) ⟨fun _ => ⟨by assumption, k, by omega, by assumption, by assumption, by assumption⟩, fun _ => rfl⟩ (by omega)
                | exact ih_4 (k + 1) false _ (by omega) ⟨fun h => (by cases h), fun h => (by
                    obtain ⟨h1, j, h2, h3⟩ := h
                    by_cases e : j = k
                    · subst e; obtain ⟨q1, q2, q3⟩ := h3; first | (exfalso; omega) | exact absurd q1 (by assumption) | exact absurd q2 (by assumption) | exact absurd (by assumption) q3 | exact absurd h1 (by assumption)
                    · have hq := hb.mpr ⟨h1, j, by omega, h3⟩
                      subst hq
                      first | simp_all | cases ‹true = false›)⟩ (by omega)
            · skip
              try simp (disch := omega) only [zk0, nI_leI, nI_ltI, nI_eq, zbk_notn, zbk_not, zbk_n0, zbk_0, zb_0, zb_n0, zb_not, zb_notn, Bool.not_eq_false, Bool.not_eq_true, Bool.not_eq_true', Bool.not_eq_false', decide_eq_true_eq, decide_eq_false_iff_not, Classical.not_not] at c_47
              refine z_iload X dX9_isTurned_50 rfl ?_
              refine z_if_eq (tgt := 81) X dX9_isTurned_52 (by decide) (fun c_52 => ?_) (fun c_52 => ?_)
              · first | exact absurd c_52 (by decide) | exact absurd (by decide) c_52
              · skip
                refine z_iload_n X dX9_isTurned_55 rfl ?_
                refine z_iload_n X dX9_isTurned_56 rfl ?_
                refine z_runS X kX9_147 (tX9_parts w v hw hv) rfl rfl (Nat.le_of_ble_eq_true rfl) ⟨by decide, by decide⟩ ⟨by decide, by decide⟩ dX9_isTurned_57 ?_
                rintro _ g1 s1 ⟨rfl, h8, h9⟩
                replace h8 := h8.symm
                subst h8
                replace h9 := h9.symm
                subst h9
                refine z_iconst (v := nI 2) X (by decide) dX9_isTurned_60 ?_
                refine z_icmp_ne (tgt := 81) X dX9_isTurned_61 (by decide) (fun c_61 => ?_) (fun c_61 => ?_)
                · skip
                  try simp (disch := omega) only [zk0, nI_leI, nI_ltI, nI_eq, zbk_notn, zbk_not, zbk_n0, zbk_0, zb_0, zb_n0, zb_not, zb_notn, Bool.not_eq_false, Bool.not_eq_true, Bool.not_eq_true', Bool.not_eq_false', decide_eq_true_eq, decide_eq_false_iff_not, Classical.not_not] at c_61
                  refine z_iconst (v := nI 0) X (by decide) dX9_isTurned_81 ?_
                  refine z_istore_n X dX9_isTurned_82 (by decide) ?_
                  refine z_inc1 X dX9_isTurned_83 rfl (by decide) ?_
                  refine z_goto (tgt := 4) X dX9_isTurned_86 (by decide) ?_
                  first
                    | (exfalso; omega)
                    | exact absurd trivial c_52
                    | exact ih_4 (k + 1) true _ (by omega) ⟨fun _ => (by obtain ⟨h1, j, h2, h3⟩ := hb.mp (by assumption); exact ⟨h1, j, by omega, h3⟩), fun _ => rfl⟩ (by omega)
                    | exact ih_4 (k + 1) true _ (by omega) ⟨fun _ => ⟨by assumption, k, by omega, by assumption, by assumption, by assumption⟩, fun _ => rfl⟩ (by omega)
                    | exact ih_4 (k + 1) false _ (by omega) ⟨fun h => (by cases h), fun h => (by
                        obtain ⟨h1, j, h2, h3⟩ := h
                        by_cases e : j = k
                        · subst e; obtain ⟨q1, q2, q3⟩ := h3; first | (exfalso; omega) | exact absurd q1 (by assumption) | exact absurd q2 (by assumption) | exact absurd (by assumption) q3 | exact absurd h1 (by assumption)
                        · have hq := hb.mpr ⟨h1, j, by omega, h3⟩
                          subst hq
                          first | simp_all | cases ‹true = false›)⟩ (by omega)
                · skip
                  try simp (disch := omega) only [zk0, nI_leI, nI_ltI, nI_eq, zbk_notn, zbk_not, zbk_n0, zbk_0, zb_0, zb_n0, zb_not, zb_notn, Bool.not_eq_false, Bool.not_eq_true, Bool.not_eq_true', Bool.not_eq_false', decide_eq_true_eq, decide_eq_false_iff_not, Classical.not_not] at c_61
                  refine z_iload_n X dX9_isTurned_64 rfl ?_
                  refine z_iload_n X dX9_isTurned_65 rfl ?_
                  refine z_runS X kX9_143 (tX9_letter w k hw (by omega)) rfl rfl (Nat.le_of_ble_eq_true rfl) ⟨by decide, by decide⟩ ⟨by decide, by decide⟩ dX9_isTurned_66 ?_
                  rintro _ g1 s1 ⟨rfl, h8, h9⟩
                  replace h8 := h8.symm
                  subst h8
                  replace h9 := h9.symm
                  subst h9
                  refine z_iload_n X dX9_isTurned_69 rfl ?_
                  refine z_iload_n X dX9_isTurned_70 rfl ?_
                  refine z_runS X kX9_143 (tX9_letter v k hv (by omega)) rfl rfl (Nat.le_of_ble_eq_true rfl) ⟨by decide, by decide⟩ ⟨by decide, by decide⟩ dX9_isTurned_71 ?_
                  rintro _ g1 s1 ⟨rfl, h8, h9⟩
                  replace h8 := h8.symm
                  subst h8
                  replace h9 := h9.symm
                  subst h9
                  refine z_icmp_eq (tgt := 81) X dX9_isTurned_74 (by decide) (fun c_74 => ?_) (fun c_74 => ?_)
                  · skip
                    try simp (disch := omega) only [zk0, nI_leI, nI_ltI, nI_eq, zbk_notn, zbk_not, zbk_n0, zbk_0, zb_0, zb_n0, zb_not, zb_notn, Bool.not_eq_false, Bool.not_eq_true, Bool.not_eq_true', Bool.not_eq_false', decide_eq_true_eq, decide_eq_false_iff_not, Classical.not_not] at c_74
                    refine z_iconst (v := nI 0) X (by decide) dX9_isTurned_81 ?_
                    refine z_istore_n X dX9_isTurned_82 (by decide) ?_
                    refine z_inc1 X dX9_isTurned_83 rfl (by decide) ?_
                    refine z_goto (tgt := 4) X dX9_isTurned_86 (by decide) ?_
                    first
                      | (exfalso; omega)
                      | exact absurd trivial c_52
                      | exact ih_4 (k + 1) true _ (by omega) ⟨fun _ => (by obtain ⟨h1, j, h2, h3⟩ := hb.mp (by assumption); exact ⟨h1, j, by omega, h3⟩), fun _ => rfl⟩ (by omega)
                      | exact ih_4 (k + 1) true _ (by omega) ⟨fun _ => ⟨by assumption, k, by omega, by assumption, by assumption, by assumption⟩, fun _ => rfl⟩ (by omega)
                      | exact ih_4 (k + 1) false _ (by omega) ⟨fun h => (by cases h), fun h => (by
                          obtain ⟨h1, j, h2, h3⟩ := h
                          by_cases e : j = k
                          · subst e; obtain ⟨q1, q2, q3⟩ := h3; first | (exfalso; omega) | exact absurd q1 (by assumption) | exact absurd q2 (by assumption) | exact absurd (by assumption) q3 | exact absurd h1 (by assumption)
                          · have hq := hb.mpr ⟨h1, j, by omega, h3⟩
                            subst hq
                            first | simp_all | cases ‹true = false›)⟩ (by omega)
                  · skip
                    try simp (disch := omega) only [zk0, nI_leI, nI_ltI, nI_eq, zbk_notn, zbk_not, zbk_n0, zbk_0, zb_0, zb_n0, zb_not, zb_notn, Bool.not_eq_false, Bool.not_eq_true, Bool.not_eq_true', Bool.not_eq_false', decide_eq_true_eq, decide_eq_false_iff_not, Classical.not_not] at c_74
                    refine z_iconst (v := nI 1) X (by decide) dX9_isTurned_77 ?_
                    refine z_goto (tgt := 82) X dX9_isTurned_78 (by decide) ?_
                    refine z_istore_n X dX9_isTurned_82 (by decide) ?_
                    refine z_inc1 X dX9_isTurned_83 rfl (by decide) ?_
                    refine z_goto (tgt := 4) X dX9_isTurned_86 (by decide) ?_
                    first
                      | (exfalso; omega)
                      | exact absurd trivial c_52
                      | exact ih_4 (k + 1) true _ (by omega) ⟨fun _ => (by obtain ⟨h1, j, h2, h3⟩ := hb.mp (by assumption); exact ⟨h1, j, by omega, h3⟩), fun _ => rfl⟩ (by omega)
                      | exact ih_4 (k + 1) true _ (by omega) ⟨fun _ => ⟨by assumption, k, by omega, by assumption, by assumption, by assumption⟩, fun _ => rfl⟩ (by omega)
                      | exact ih_4 (k + 1) false _ (by omega) ⟨fun h => (by cases h), fun h => (by
                          obtain ⟨h1, j, h2, h3⟩ := h
                          by_cases e : j = k
                          · subst e; obtain ⟨q1, q2, q3⟩ := h3; first | (exfalso; omega) | exact absurd q1 (by assumption) | exact absurd q2 (by assumption) | exact absurd (by assumption) q3 | exact absurd h1 (by assumption)
                          · have hq := hb.mpr ⟨h1, j, by omega, h3⟩
                            subst hq
                            first | simp_all | cases ‹true = false›)⟩ (by omega)
  refine z_iconst (v := nI 0) X (by decide) dX9_isTurned_0 ?_
  refine z_istore_n X dX9_isTurned_1 (by decide) ?_
  refine z_iconst (v := nI 0) X (by decide) dX9_isTurned_2 ?_
  refine z_istore_n X dX9_isTurned_3 (by decide) ?_
  exact loop_4 (4 - 0 + 1) 0 false none (by omega) ⟨fun h => (by cases h), fun h => (by obtain ⟨-, j, hj, -⟩ := h; exact absurd hj (Nat.not_lt_zero _))⟩ (by omega)

set_option maxHeartbeats 4000000 in
set_option maxRecDepth 100000 in
theorem tX9_up {l : Launch} {D : va_G} {cy : Nat → ClassId} {z0 : Nat} {g : zSh} {σ : zIn} (a b : Nat) (ha : a < 1000) (hb : 0 < b) (hb2 : b < 1000) : z_Ct l D cy z0 MX9_up [.int (nI a), .int (nI b)] g σ (zI (nI ((a + b - 1) / b)) g σ) := by
  refine z_ofM (by decide) (z_ci (z_ci z_c0)) (Nat.le_of_ble_eq_true rfl) ?_
  intro p e s m args below meth c X
  refine z_iload_n X dX9_up_0 rfl ?_
  refine z_iload_n X dX9_up_1 rfl ?_
  refine z_iaddN X dX9_up_2 ?_
  refine z_iconst (v := nI 1) X (by decide) dX9_up_3 ?_
  refine z_isubN X (by omega) dX9_up_4 ?_
  refine z_iload_n X dX9_up_5 rfl ?_
  refine z_idivN X (by omega) (by omega) (by omega) dX9_up_6 ?_
  refine z_iret X (by decide) (by decide) rfl dX9_up_7 ?_
  exact zI_e rfl rfl rfl

set_option maxHeartbeats 4000000 in
set_option maxRecDepth 100000 in
theorem tX9_thrown {l : Launch} {D : va_G} {cy : Nat → ClassId} {z0 : Nat} {g : zSh} {σ : zIn}  (hS : zS g) : z_Ct l D cy z0 MX9_thrown [.ref (g.2.1 21)] g σ (zI (σ 21 48) g σ) := by
  refine z_ofM (by decide) (z_cr z_c0) (Nat.le_of_ble_eq_true rfl) ?_
  intro p e s m args below meth c X
  refine z_aload_n X dX9_thrown_0 rfl ?_
  refine z_geti X fX9_122 (zso_21 hS) rfl dX9_thrown_1 ?_
  refine z_iret X (by decide) (by decide) rfl dX9_thrown_4 ?_
  exact zI_e rfl rfl rfl

set_option maxHeartbeats 4000000 in
set_option maxRecDepth 100000 in
theorem tX9_fails {l : Launch} {D : va_G} {cy : Nat → ClassId} {z0 : Nat} {g : zSh} {σ : zIn} (w : Int32) (hS : zS g) : z_Ct l D cy z0 MX9_fails [.ref (g.2.1 21), .int w] g σ (zI 0 g (z_up σ 21 48 w)) := by
  refine z_ofM (by decide) (z_cr (z_ci z_c0)) (Nat.le_of_ble_eq_true rfl) ?_
  intro p e s m args below meth c X
  refine z_aload_n X dX9_fails_0 rfl ?_
  refine z_iload_n X dX9_fails_1 rfl ?_
  refine z_puti X fX9_122 (zso_21 hS) rfl dX9_fails_2 ?_
  refine z_iconst (v := nI 0) X (by decide) dX9_fails_5 ?_
  refine z_iret X (by decide) (by decide) rfl dX9_fails_6 ?_
  exact zI_e rfl rfl rfl

set_option maxHeartbeats 4000000 in
set_option maxRecDepth 100000 in
theorem tX9_asks {l : Launch} {D : va_G} {cy : Nat → ClassId} {z0 : Nat} {g : zSh} {σ : zIn} (b : Bool) (hS : zS g) : z_Ct l D cy z0 MX9_asks [.ref (g.2.1 21), .int (zb b)] g σ (zI (zb b) g (z_up σ 21 48 (if b then 0 else 1))) := by
  refine z_ofM (by decide) (z_cr (z_ci z_c0)) (Nat.le_of_ble_eq_true rfl) ?_
  intro p e s m args below meth c X
  refine z_aload_n X dX9_asks_0 rfl ?_
  refine z_iload_n X dX9_asks_1 rfl ?_
  refine z_if_eq (tgt := 9) X dX9_asks_2 (by decide) (fun c_2 => ?_) (fun c_2 => ?_)
  · skip
    try simp (disch := omega) only [zk0, nI_leI, nI_ltI, nI_eq, zbk_notn, zbk_not, zbk_n0, zbk_0, zb_0, zb_n0, zb_not, zb_notn, Bool.not_eq_false, Bool.not_eq_true, Bool.not_eq_true', Bool.not_eq_false', decide_eq_true_eq, decide_eq_false_iff_not, Classical.not_not] at c_2
    refine z_iconst (v := nI 1) X (by decide) dX9_asks_9 ?_
    refine z_puti X fX9_122 (zso_21 hS) rfl dX9_asks_10 ?_
    refine z_iload_n X dX9_asks_13 rfl ?_
    refine z_zret X (by decide) (by decide) rfl (by first | exact Or.inl rfl | exact Or.inr rfl | exact zb_01 _ | assumption) dX9_asks_14 ?_
    exact zI_e rfl rfl (by rw [c_2]; rfl)
  · skip
    try simp (disch := omega) only [zk0, nI_leI, nI_ltI, nI_eq, zbk_notn, zbk_not, zbk_n0, zbk_0, zb_0, zb_n0, zb_not, zb_notn, Bool.not_eq_false, Bool.not_eq_true, Bool.not_eq_true', Bool.not_eq_false', decide_eq_true_eq, decide_eq_false_iff_not, Classical.not_not] at c_2
    refine z_iconst (v := nI 0) X (by decide) dX9_asks_5 ?_
    refine z_goto (tgt := 10) X dX9_asks_6 (by decide) ?_
    refine z_puti X fX9_122 (zso_21 hS) rfl dX9_asks_10 ?_
    refine z_iload_n X dX9_asks_13 rfl ?_
    refine z_zret X (by decide) (by decide) rfl (by first | exact Or.inl rfl | exact Or.inr rfl | exact zb_01 _ | assumption) dX9_asks_14 ?_
    exact zI_e rfl rfl (by rw [c_2]; rfl)

theorem zinm {i : Int32} {n : Nat} (hn : n < 2 ^ 30) : decide (nI 0 ≤ i ∧ i ≤ nI n - nI 1) = zin i n := by
  unfold zin
  refine decide_eq_decide.mpr ?_
  rw [Int32.le_iff_toInt_le, Int32.le_iff_toInt_le, show nI n - nI 1 = nI n - 1 from rfl, zsub1 hn, nI_toInt (by decide)]
  constructor <;> intro h <;> omega
set_option maxHeartbeats 4000000 in
set_option maxRecDepth 100000 in
theorem tX9_isIdea {l : Launch} {D : va_G} {cy : Nat → ClassId} {z0 : Nat} {g : zSh} {σ : zIn} {n : Nat} (i : Int32) (hS : zS g) (hn : σ 21 0 = nI n) (hb : n ≤ 1000) : z_Ct l D cy z0 MX9_isIdea [.ref (g.2.1 21), .int i] g σ (zI (zb (zin i n)) g σ) := by
  refine z_ofM (by decide) (z_cr (z_ci z_c0)) (Nat.le_of_ble_eq_true rfl) ?_
  intro p e s m args below meth c X
  refine z_iload_n X dX9_isIdea_0 rfl ?_
  refine z_iconst (v := nI 0) X (by decide) dX9_isIdea_1 ?_
  refine z_aload_n X dX9_isIdea_2 rfl ?_
  refine z_geti X fX9_126 (zso_21 hS) rfl dX9_isIdea_3 ?_
  rw [hn]
  refine z_iconst (v := nI 1) X (by decide) dX9_isIdea_6 ?_
  refine z_isub X dX9_isIdea_7 ?_
  refine z_runS X kX9_129 (tX9_in i (nI 0) (nI n - nI 1)) rfl rfl (Nat.le_of_ble_eq_true rfl) ⟨by decide, by decide⟩ ⟨by decide, by decide⟩ dX9_isIdea_8 ?_
  rintro _ g1 s1 ⟨rfl, h8, h9⟩
  replace h8 := h8.symm
  subst h8
  replace h9 := h9.symm
  subst h9
  refine z_zret X (by decide) (by decide) rfl (by first | exact Or.inl rfl | exact Or.inr rfl | exact zb_01 _ | assumption) dX9_isIdea_11 ?_
  exact zI_e (by rw [zinm (by omega)]) rfl rfl

set_option maxHeartbeats 4000000 in
set_option maxRecDepth 100000 in
theorem tX9_isOffice {l : Launch} {D : va_G} {cy : Nat → ClassId} {z0 : Nat} {g : zSh} {σ : zIn} {n : Nat} (i : Int32) (hS : zS g) (hn : σ 21 5 = nI n) (hb : n ≤ 1000) : z_Ct l D cy z0 MX9_isOffice [.ref (g.2.1 21), .int i] g σ (zI (zb (zin i n)) g σ) := by
  refine z_ofM (by decide) (z_cr (z_ci z_c0)) (Nat.le_of_ble_eq_true rfl) ?_
  intro p e s m args below meth c X
  refine z_iload_n X dX9_isOffice_0 rfl ?_
  refine z_iconst (v := nI 0) X (by decide) dX9_isOffice_1 ?_
  refine z_aload_n X dX9_isOffice_2 rfl ?_
  refine z_geti X fX9_133 (zso_21 hS) rfl dX9_isOffice_3 ?_
  rw [hn]
  refine z_iconst (v := nI 1) X (by decide) dX9_isOffice_6 ?_
  refine z_isub X dX9_isOffice_7 ?_
  refine z_runS X kX9_129 (tX9_in i (nI 0) (nI n - nI 1)) rfl rfl (Nat.le_of_ble_eq_true rfl) ⟨by decide, by decide⟩ ⟨by decide, by decide⟩ dX9_isOffice_8 ?_
  rintro _ g1 s1 ⟨rfl, h8, h9⟩
  replace h8 := h8.symm
  subst h8
  replace h9 := h9.symm
  subst h9
  refine z_zret X (by decide) (by decide) rfl (by first | exact Or.inl rfl | exact Or.inr rfl | exact zb_01 _ | assumption) dX9_isOffice_11 ?_
  exact zI_e (by rw [zinm (by omega)]) rfl rfl

set_option maxHeartbeats 4000000 in
set_option maxRecDepth 100000 in
theorem tX9_isCable {l : Launch} {D : va_G} {cy : Nat → ClassId} {z0 : Nat} {g : zSh} {σ : zIn} {n : Nat} (i : Int32) (hS : zS g) (hn : σ 21 10 = nI n) (hb : n ≤ 1000) : z_Ct l D cy z0 MX9_isCable [.ref (g.2.1 21), .int i] g σ (zI (zb (zin i n)) g σ) := by
  refine z_ofM (by decide) (z_cr (z_ci z_c0)) (Nat.le_of_ble_eq_true rfl) ?_
  intro p e s m args below meth c X
  refine z_iload_n X dX9_isCable_0 rfl ?_
  refine z_iconst (v := nI 0) X (by decide) dX9_isCable_1 ?_
  refine z_aload_n X dX9_isCable_2 rfl ?_
  refine z_geti X fX9_136 (zso_21 hS) rfl dX9_isCable_3 ?_
  rw [hn]
  refine z_iconst (v := nI 1) X (by decide) dX9_isCable_6 ?_
  refine z_isub X dX9_isCable_7 ?_
  refine z_runS X kX9_129 (tX9_in i (nI 0) (nI n - nI 1)) rfl rfl (Nat.le_of_ble_eq_true rfl) ⟨by decide, by decide⟩ ⟨by decide, by decide⟩ dX9_isCable_8 ?_
  rintro _ g1 s1 ⟨rfl, h8, h9⟩
  replace h8 := h8.symm
  subst h8
  replace h9 := h9.symm
  subst h9
  refine z_zret X (by decide) (by decide) rfl (by first | exact Or.inl rfl | exact Or.inr rfl | exact zb_01 _ | assumption) dX9_isCable_11 ?_
  exact zI_e (by rw [zinm (by omega)]) rfl rfl

set_option maxHeartbeats 4000000 in
set_option maxRecDepth 100000 in
theorem tX9_isMessage {l : Launch} {D : va_G} {cy : Nat → ClassId} {z0 : Nat} {g : zSh} {σ : zIn} {n : Nat} (i : Int32) (hS : zS g) (hn : σ 21 27 = nI n) (hb : n ≤ 1000) : z_Ct l D cy z0 MX9_isMessage [.ref (g.2.1 21), .int i] g σ (zI (zb (zin i n)) g σ) := by
  refine z_ofM (by decide) (z_cr (z_ci z_c0)) (Nat.le_of_ble_eq_true rfl) ?_
  intro p e s m args below meth c X
  refine z_iload_n X dX9_isMessage_0 rfl ?_
  refine z_iconst (v := nI 0) X (by decide) dX9_isMessage_1 ?_
  refine z_aload_n X dX9_isMessage_2 rfl ?_
  refine z_geti X fX9_139 (zso_21 hS) rfl dX9_isMessage_3 ?_
  rw [hn]
  refine z_iconst (v := nI 1) X (by decide) dX9_isMessage_6 ?_
  refine z_isub X dX9_isMessage_7 ?_
  refine z_runS X kX9_129 (tX9_in i (nI 0) (nI n - nI 1)) rfl rfl (Nat.le_of_ble_eq_true rfl) ⟨by decide, by decide⟩ ⟨by decide, by decide⟩ dX9_isMessage_8 ?_
  rintro _ g1 s1 ⟨rfl, h8, h9⟩
  replace h8 := h8.symm
  subst h8
  replace h9 := h9.symm
  subst h9
  refine z_zret X (by decide) (by decide) rfl (by first | exact Or.inl rfl | exact Or.inr rfl | exact zb_01 _ | assumption) dX9_isMessage_11 ?_
  exact zI_e (by rw [zinm (by omega)]) rfl rfl

set_option maxHeartbeats 4000000 in
set_option maxRecDepth 100000 in
theorem tX9_isWord {l : Launch} {D : va_G} {cy : Nat → ClassId} {z0 : Nat} {g : zSh} {σ : zIn} (i : Int32)  : z_Ct l D cy z0 MX9_isWord [.int i] g σ (zI (zb (zin i 11881376)) g σ) := by
  refine z_ofM (by decide) (z_ci z_c0) (Nat.le_of_ble_eq_true rfl) ?_
  intro p e s m args below meth c X
  refine z_iload_n X dX9_isWord_0 rfl ?_
  refine z_iconst (v := 0) X (by decide) dX9_isWord_1 ?_
  refine z_ldc X qX9_142 dX9_isWord_2 ?_
  refine z_runS X kX9_129 (tX9_in i 0 11881375) rfl rfl (Nat.le_of_ble_eq_true rfl) ⟨by decide, by decide⟩ ⟨by decide, by decide⟩ dX9_isWord_4 ?_
  rintro _ g1 s1 ⟨rfl, h8, h9⟩
  replace h8 := h8.symm
  subst h8
  replace h9 := h9.symm
  subst h9
  refine z_zret X (by decide) (by decide) rfl (by first | exact Or.inl rfl | exact Or.inr rfl | exact zb_01 _ | assumption) dX9_isWord_7 ?_
  refine zI_e (congrArg zb ?_) rfl rfl
  unfold zin
  refine decide_eq_decide.mpr ?_
  rw [Int32.le_iff_toInt_le, Int32.le_iff_toInt_le, show (11881375 : Int32).toInt = 11881375 by decide, show (0 : Int32).toInt = 0 by decide]
  omega

set_option maxHeartbeats 4000000 in
set_option maxRecDepth 100000 in
theorem tX9_isIdeaOrNone {l : Launch} {D : va_G} {cy : Nat → ClassId} {z0 : Nat} {g : zSh} {σ : zIn} {n : Nat} (i : Int32) (hS : zS g) (hn : σ 21 0 = nI n) (hb : n ≤ 1000) : z_Ct l D cy z0 MX9_isIdeaOrNone [.ref (g.2.1 21), .int i] g σ (zI (zb (decide (i = -1) || zin i n)) g σ) := by
  refine z_ofM (by decide) (z_cr (z_ci z_c0)) (Nat.le_of_ble_eq_true rfl) ?_
  intro p e s m args below meth c X
  refine z_iload_n X dX9_isIdeaOrNone_0 rfl ?_
  refine z_iconst (v := -1) X (by decide) dX9_isIdeaOrNone_1 ?_
  refine z_icmp_eq (tgt := 13) X dX9_isIdeaOrNone_2 (by decide) (fun c_2 => ?_) (fun c_2 => ?_)
  · skip
    try simp (disch := omega) only [zk0, nI_leI, nI_ltI, nI_eq, zbk_notn, zbk_not, zbk_n0, zbk_0, zb_0, zb_n0, zb_not, zb_notn, Bool.not_eq_false, Bool.not_eq_true, Bool.not_eq_true', Bool.not_eq_false', decide_eq_true_eq, decide_eq_false_iff_not, Classical.not_not] at c_2
    refine z_iconst (v := nI 1) X (by decide) dX9_isIdeaOrNone_13 ?_
    refine z_goto (tgt := 18) X dX9_isIdeaOrNone_14 (by decide) ?_
    refine z_zret X (by decide) (by decide) rfl (by first | exact Or.inl rfl | exact Or.inr rfl | exact zb_01 _ | assumption) dX9_isIdeaOrNone_18 ?_
    exact zI_e (by simp_all [zb, zk0, zk1]) rfl rfl
  · skip
    try simp (disch := omega) only [zk0, nI_leI, nI_ltI, nI_eq, zbk_notn, zbk_not, zbk_n0, zbk_0, zb_0, zb_n0, zb_not, zb_notn, Bool.not_eq_false, Bool.not_eq_true, Bool.not_eq_true', Bool.not_eq_false', decide_eq_true_eq, decide_eq_false_iff_not, Classical.not_not] at c_2
    refine z_aload_n X dX9_isIdeaOrNone_5 rfl ?_
    refine z_iload_n X dX9_isIdeaOrNone_6 rfl ?_
    refine z_runV X kX9_158 (tX9_isIdea i hS hn hb) (zso_21 hS) rfl rfl (Nat.le_of_ble_eq_true rfl) ⟨by decide, by decide⟩ ⟨by decide, by decide⟩ dX9_isIdeaOrNone_7 ?_
    rintro _ g1 s1 ⟨rfl, h8, h9⟩
    replace h8 := h8.symm
    subst h8
    replace h9 := h9.symm
    subst h9
    refine z_if_eq (tgt := 17) X dX9_isIdeaOrNone_10 (by decide) (fun c_10 => ?_) (fun c_10 => ?_)
    · skip
      try simp (disch := omega) only [zk0, nI_leI, nI_ltI, nI_eq, zbk_notn, zbk_not, zbk_n0, zbk_0, zb_0, zb_n0, zb_not, zb_notn, Bool.not_eq_false, Bool.not_eq_true, Bool.not_eq_true', Bool.not_eq_false', decide_eq_true_eq, decide_eq_false_iff_not, Classical.not_not] at c_10
      refine z_iconst (v := nI 0) X (by decide) dX9_isIdeaOrNone_17 ?_
      refine z_zret X (by decide) (by decide) rfl (by first | exact Or.inl rfl | exact Or.inr rfl | exact zb_01 _ | assumption) dX9_isIdeaOrNone_18 ?_
      exact zI_e (by simp_all [zb, zk0, zk1]) rfl rfl
    · skip
      try simp (disch := omega) only [zk0, nI_leI, nI_ltI, nI_eq, zbk_notn, zbk_not, zbk_n0, zbk_0, zb_0, zb_n0, zb_not, zb_notn, Bool.not_eq_false, Bool.not_eq_true, Bool.not_eq_true', Bool.not_eq_false', decide_eq_true_eq, decide_eq_false_iff_not, Classical.not_not] at c_10
      refine z_iconst (v := nI 1) X (by decide) dX9_isIdeaOrNone_13 ?_
      refine z_goto (tgt := 18) X dX9_isIdeaOrNone_14 (by decide) ?_
      refine z_zret X (by decide) (by decide) rfl (by first | exact Or.inl rfl | exact Or.inr rfl | exact zb_01 _ | assumption) dX9_isIdeaOrNone_18 ?_
      exact zI_e (by simp_all [zb, zk0, zk1]) rfl rfl
