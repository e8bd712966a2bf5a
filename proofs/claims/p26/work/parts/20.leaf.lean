/-! leaf methods: letters -/
set_option maxHeartbeats 4000000 in
set_option maxRecDepth 100000 in
theorem tX8_isOutside {l : Launch} {D : va_G} {cy : Nat → ClassId} {z0 : zRg} {g : zSh} {σ : zIn} (a lo hi : Int32)  : z_Ct l D cy z0 MX8_isOutside [.int a, .int lo, .int hi] g σ (zI (zb (decide (a < lo ∨ hi < a))) g σ) := by
  refine z_ofM (by decide) (z_ci (z_ci (z_ci z_c0))) (Nat.le_of_ble_eq_true rfl) ?_
  intro p e s m args below meth c X
  refine z_iload_n X dX8_isOutside_0 rfl ?_
  refine z_iload_n X dX8_isOutside_1 rfl ?_
  refine z_icmp_lt (tgt := 10) X dX8_isOutside_2 (by decide) (fun c_2 => ?_) (fun c_2 => ?_)
  · skip
    refine z_iconst (v := 1) X (by decide) dX8_isOutside_10 ?_
    refine z_goto (tgt := 15) X dX8_isOutside_11 (by decide) ?_
    refine z_zret X (by decide) (by decide) rfl (by first | exact Or.inl rfl | exact Or.inr rfl | exact zb_01 _ | assumption) dX8_isOutside_15 ?_
    exact zI_e (by simp_all [zb]) rfl rfl
  · skip
    refine z_iload_n X dX8_isOutside_5 rfl ?_
    refine z_iload_n X dX8_isOutside_6 rfl ?_
    refine z_icmp_le (tgt := 14) X dX8_isOutside_7 (by decide) (fun c_7 => ?_) (fun c_7 => ?_)
    · skip
      refine z_iconst (v := 0) X (by decide) dX8_isOutside_14 ?_
      refine z_zret X (by decide) (by decide) rfl (by first | exact Or.inl rfl | exact Or.inr rfl | exact zb_01 _ | assumption) dX8_isOutside_15 ?_
      exact zI_e (by simp_all [zb]) rfl rfl
    · skip
      refine z_iconst (v := 1) X (by decide) dX8_isOutside_10 ?_
      refine z_goto (tgt := 15) X dX8_isOutside_11 (by decide) ?_
      refine z_zret X (by decide) (by decide) rfl (by first | exact Or.inl rfl | exact Or.inr rfl | exact zb_01 _ | assumption) dX8_isOutside_15 ?_
      exact zI_e (by simp_all [zb]) rfl rfl

set_option maxHeartbeats 4000000 in
set_option maxRecDepth 100000 in
theorem tX8_isCode {l : Launch} {D : va_G} {cy : Nat → ClassId} {z0 : zRg} {g : zSh} {σ : zIn} (w : Int32)  : z_Ct l D cy z0 MX8_isCode [.int w] g σ (zI (zb (decide (0 ≤ w))) g σ) := by
  refine z_ofM (by decide) (z_ci z_c0) (Nat.le_of_ble_eq_true rfl) ?_
  intro p e s m args below meth c X
  refine z_iload_n X dX8_isCode_0 rfl ?_
  refine z_if_lt (tgt := 8) X dX8_isCode_1 (by decide) (fun c_1 => ?_) (fun c_1 => ?_)
  · skip
    refine z_iconst (v := 0) X (by decide) dX8_isCode_8 ?_
    refine z_zret X (by decide) (by decide) rfl (by first | exact Or.inl rfl | exact Or.inr rfl | exact zb_01 _ | assumption) dX8_isCode_9 ?_
    exact zI_e (by simp_all [zb]) rfl rfl
  · skip
    refine z_iconst (v := 1) X (by decide) dX8_isCode_4 ?_
    refine z_goto (tgt := 9) X dX8_isCode_5 (by decide) ?_
    refine z_zret X (by decide) (by decide) rfl (by first | exact Or.inl rfl | exact Or.inr rfl | exact zb_01 _ | assumption) dX8_isCode_9 ?_
    exact zI_e (by simp_all [zb]) rfl rfl

set_option maxHeartbeats 4000000 in
set_option maxRecDepth 100000 in
theorem tX8_plainOf {l : Launch} {D : va_G} {cy : Nat → ClassId} {z0 : zRg} {g : zSh} {σ : zIn} (w : Int32)  : z_Ct l D cy z0 MX8_plainOf [.int w] g σ (zI ((-1) - w - 1) g σ) := by
  refine z_ofM (by decide) (z_ci z_c0) (Nat.le_of_ble_eq_true rfl) ?_
  intro p e s m args below meth c X
  refine z_iconst (v := -1) X (by decide) dX8_plainOf_0 ?_
  refine z_iload_n X dX8_plainOf_1 rfl ?_
  refine z_isub X dX8_plainOf_2 ?_
  refine z_iconst (v := 1) X (by decide) dX8_plainOf_3 ?_
  refine z_isub X dX8_plainOf_4 ?_
  refine z_iret X (by decide) (by decide) rfl dX8_plainOf_5 ?_
  exact zI_e rfl rfl rfl

set_option maxHeartbeats 4000000 in
set_option maxRecDepth 100000 in
theorem tX8_ideaOfPlain {l : Launch} {D : va_G} {cy : Nat → ClassId} {z0 : zRg} {g : zSh} {σ : zIn} (w : Int32)  : z_Ct l D cy z0 MX8_ideaOfPlain [.int w] g σ (zI ((-1) - w - 1) g σ) := by
  refine z_ofM (by decide) (z_ci z_c0) (Nat.le_of_ble_eq_true rfl) ?_
  intro p e s m args below meth c X
  refine z_iconst (v := -1) X (by decide) dX8_ideaOfPlain_0 ?_
  refine z_iload_n X dX8_ideaOfPlain_1 rfl ?_
  refine z_isub X dX8_ideaOfPlain_2 ?_
  refine z_iconst (v := 1) X (by decide) dX8_ideaOfPlain_3 ?_
  refine z_isub X dX8_ideaOfPlain_4 ?_
  refine z_iret X (by decide) (by decide) rfl dX8_ideaOfPlain_5 ?_
  exact zI_e rfl rfl rfl

set_option maxHeartbeats 4000000 in
set_option maxRecDepth 100000 in
theorem tX8_roundedUp {l : Launch} {D : va_G} {cy : Nat → ClassId} {z0 : zRg} {g : zSh} {σ : zIn} (a b : Nat) (ha : a < 1000) (hb : 0 < b) (hb2 : b < 1000) : z_Ct l D cy z0 MX8_roundedUp [.int (nI a), .int (nI b)] g σ (zI (nI ((a + b - 1) / b)) g σ) := by
  refine z_ofM (by decide) (z_ci (z_ci z_c0)) (Nat.le_of_ble_eq_true rfl) ?_
  intro p e s m args below meth c X
  refine z_iload_n X dX8_roundedUp_0 rfl ?_
  refine z_if_gt (tgt := 8) X dX8_roundedUp_1 (by decide) (fun c_1 => ?_) (fun c_1 => ?_)
  · skip
    try simp (disch := omega) only [zk0, nI_leI, nI_ltI, nI_eq, zbk_notn, zbk_not, zbk_n0, zbk_0, zb_0, zb_n0, zb_not, zb_notn, Bool.not_eq_false, Bool.not_eq_true, Bool.not_eq_true', Bool.not_eq_false', decide_eq_true_eq, decide_eq_false_iff_not, Classical.not_not] at c_1
    refine z_iload_n X dX8_roundedUp_8 rfl ?_
    refine z_iload_n X dX8_roundedUp_9 rfl ?_
    refine z_iaddN X dX8_roundedUp_10 ?_
    refine z_iconst (v := nI 1) X (by decide) dX8_roundedUp_11 ?_
    refine z_isubN X (by omega) dX8_roundedUp_12 ?_
    refine z_iload_n X dX8_roundedUp_13 rfl ?_
    refine z_idivN X (by omega) (by omega) (by omega) dX8_roundedUp_14 ?_
    refine z_iret X (by decide) (by decide) rfl dX8_roundedUp_15 ?_
    exact zI_e rfl rfl rfl
  · skip
    try simp (disch := omega) only [zk0, nI_leI, nI_ltI, nI_eq, zbk_notn, zbk_not, zbk_n0, zbk_0, zb_0, zb_n0, zb_not, zb_notn, Bool.not_eq_false, Bool.not_eq_true, Bool.not_eq_true', Bool.not_eq_false', decide_eq_true_eq, decide_eq_false_iff_not, Classical.not_not] at c_1
    omega

theorem z26 {k : Nat} (h : k ≤ 4) : 26 ^ k ≤ 456976 ∧ 0 < 26 ^ k := by
  match k, h with
  | 0, _ => decide
  | 1, _ => decide
  | 2, _ => decide
  | 3, _ => decide
  | 4, _ => decide
theorem zvk_y {w : Int32} {k : Nat} (h : zvl (zl w k) = true) : zvk w (k + 1) = zvk w k + 1 := by simp [zvk, h]
theorem zvk_n {w : Int32} {k : Nat} (h : zvl (zl w k) = false) : zvk w (k + 1) = zvk w k := by simp [zvk, h]
theorem zpk_y {w v : Int32} {k : Nat} (h : zl w k = zl v k) : zpk w v (k + 1) = zpk w v k := by simp [zpk, h]
theorem zpk_n {w v : Int32} {k : Nat} (h : ¬ zl w k = zl v k) : zpk w v (k + 1) = zpk w v k + 1 := by simp [zpk, h]
theorem zl_n {w : Nat} (hw : w < 2 ^ 31) (k : Nat) : zl (nI w) k = w / 26 ^ (4 - k) % 26 := by
  unfold zl; rw [nI_toInt hw]; rfl
set_option maxHeartbeats 4000000 in
set_option maxRecDepth 100000 in
theorem tX8_weightOf {l : Launch} {D : va_G} {cy : Nat → ClassId} {z0 : zRg} {g : zSh} {σ : zIn} (k : Nat) (hk : k < 5) : z_Ct l D cy z0 MX8_weightOf [.int (nI k)] g σ (zI (nI (26 ^ (4 - k))) g σ) := by
  refine z_ofM (by decide) (z_ci z_c0) (Nat.le_of_ble_eq_true rfl) ?_
  intro p e s m args below meth c X
  have loop_4 : ∀ (n : Nat) (i : Nat) (hi1 : k ≤ i) (hi2 : i ≤ 4) (hn : 4 - i < n), z_V p l e (zRm MX8_weightOf) s m args below meth c 3 D cy z0 0 0 (zQm MX8_weightOf below D cy z0 (zI (nI (26 ^ (4 - k))) g σ) args s) 4 [some (.int (nI k)), some (.int (nI (26 ^ (i - k)))), some (.int (nI i))] [] g σ := by
    intro n
    induction n with
    | zero => intro i hi1 hi2 hn; exact absurd hn (Nat.not_lt_zero _)
    | succ n ih_4 =>
      intro i hi1 hi2 hn
      refine z_iload_n X dX8_weightOf_4 rfl ?_
      refine z_iconst (v := nI 4) X (by decide) dX8_weightOf_5 ?_
      refine z_icmp_ge (tgt := 20) X dX8_weightOf_6 (by decide) (fun c_6 => ?_) (fun c_6 => ?_)
      · skip
        try simp (disch := omega) only [zk0, nI_leI, nI_ltI, nI_eq, zbk_notn, zbk_not, zbk_n0, zbk_0, zb_0, zb_n0, zb_not, zb_notn, Bool.not_eq_false, Bool.not_eq_true, Bool.not_eq_true', Bool.not_eq_false', decide_eq_true_eq, decide_eq_false_iff_not, Classical.not_not] at c_6
        refine z_iload_n X dX8_weightOf_20 rfl ?_
        refine z_iret X (by decide) (by decide) rfl dX8_weightOf_21 ?_
        have e : i = 4 := by omega
        subst e
        exact zI_e rfl rfl rfl
      · skip
        try simp (disch := omega) only [zk0, nI_leI, nI_ltI, nI_eq, zbk_notn, zbk_not, zbk_n0, zbk_0, zb_0, zb_n0, zb_not, zb_notn, Bool.not_eq_false, Bool.not_eq_true, Bool.not_eq_true', Bool.not_eq_false', decide_eq_true_eq, decide_eq_false_iff_not, Classical.not_not] at c_6
        refine z_iload_n X dX8_weightOf_9 rfl ?_
        refine z_bipush (v := nI 26) X (by decide) dX8_weightOf_10 ?_
        refine z_imulN X dX8_weightOf_12 ?_
        refine z_istore_n X dX8_weightOf_13 (by decide) ?_
        refine z_inc1 X dX8_weightOf_14 rfl (by decide) ?_
        refine z_goto (tgt := 4) X dX8_weightOf_17 (by decide) ?_
        have e2 := ih_4 (i + 1) (by omega) (by omega) (by omega)
        rw [show i + 1 - k = i - k + 1 by omega, Nat.pow_succ] at e2
        exact e2
  refine z_iconst (v := nI 1) X (by decide) dX8_weightOf_0 ?_
  refine z_istore_n X dX8_weightOf_1 (by decide) ?_
  refine z_iload_n X dX8_weightOf_2 rfl ?_
  refine z_istore_n X dX8_weightOf_3 (by decide) ?_
  exact (show nI (26 ^ (k - k)) = nI 1 by rw [Nat.sub_self]) ▸ loop_4 (4 - k + 1) k (Nat.le_refl _) (by omega) (by omega)

set_option maxHeartbeats 4000000 in
set_option maxRecDepth 100000 in
theorem tX8_letterOf {l : Launch} {D : va_G} {cy : Nat → ClassId} {z0 : zRg} {g : zSh} {σ : zIn} (w k : Nat) (hw : w < 2 ^ 31) (hk : k < 5) : z_Ct l D cy z0 MX8_letterOf [.int (nI w), .int (nI k)] g σ (zI (nI (zl (nI w) k)) g σ) := by
  refine z_ofM (by decide) (z_ci (z_ci z_c0)) (Nat.le_of_ble_eq_true rfl) ?_
  intro p e s m args below meth c X
  have hp := z26 (show 4 - k ≤ 4 by omega)
  have hq := Nat.div_le_self w (26 ^ (4 - k))
  refine z_iload_n X dX8_letterOf_0 rfl ?_
  refine z_runS X kX8_380 (tX8_weightOf k hk) rfl rfl (Nat.le_of_ble_eq_true rfl) ⟨by decide, by decide⟩ ⟨by decide, by decide⟩ dX8_letterOf_1 ?_
  rintro _ g1 s1 ⟨rfl, h8, h9⟩
  replace h8 := h8.symm
  subst h8
  replace h9 := h9.symm
  subst h9
  refine z_istore_n X dX8_letterOf_4 (by decide) ?_
  refine z_iload_n X dX8_letterOf_5 rfl ?_
  refine z_if_gt (tgt := 13) X dX8_letterOf_6 (by decide) (fun c_6 => ?_) (fun c_6 => ?_)
  · skip
    try simp (disch := omega) only [zk0, nI_leI, nI_ltI, nI_eq, zbk_notn, zbk_not, zbk_n0, zbk_0, zb_0, zb_n0, zb_not, zb_notn, Bool.not_eq_false, Bool.not_eq_true, Bool.not_eq_true', Bool.not_eq_false', decide_eq_true_eq, decide_eq_false_iff_not, Classical.not_not] at c_6
    refine z_iload_n X dX8_letterOf_13 rfl ?_
    refine z_iload_n X dX8_letterOf_14 rfl ?_
    refine z_idivN X (by omega) (by omega) (by omega) dX8_letterOf_15 ?_
    refine z_bipush (v := nI 26) X (by decide) dX8_letterOf_16 ?_
    refine z_iremN X (by omega) (by omega) (by omega) dX8_letterOf_18 ?_
    refine z_iret X (by decide) (by decide) rfl dX8_letterOf_19 ?_
    exact zI_e (by rw [zl_n hw]) rfl rfl
  · skip
    try simp (disch := omega) only [zk0, nI_leI, nI_ltI, nI_eq, zbk_notn, zbk_not, zbk_n0, zbk_0, zb_0, zb_n0, zb_not, zb_notn, Bool.not_eq_false, Bool.not_eq_true, Bool.not_eq_true', Bool.not_eq_false', decide_eq_true_eq, decide_eq_false_iff_not, Classical.not_not] at c_6
    omega

set_option maxHeartbeats 4000000 in
set_option maxRecDepth 100000 in
theorem tX8_withLetter {l : Launch} {D : va_G} {cy : Nat → ClassId} {z0 : zRg} {g : zSh} {σ : zIn} (w k t : Nat) (hw : w < 2 ^ 31) (hk : k < 5) (ht : t < 26) : z_Ct l D cy z0 MX8_withLetter [.int (nI w), .int (nI k), .int (nI t)] g σ (zI (nI w + (nI t - nI (zl (nI w) k)) * nI (26 ^ (4 - k))) g σ) := by
  refine z_ofM (by decide) (z_ci (z_ci (z_ci z_c0))) (Nat.le_of_ble_eq_true rfl) ?_
  intro p e s m args below meth c X
  refine z_iload_n X dX8_withLetter_0 rfl ?_
  refine z_iload_n X dX8_withLetter_1 rfl ?_
  refine z_iload_n X dX8_withLetter_2 rfl ?_
  refine z_iload_n X dX8_withLetter_3 rfl ?_
  refine z_runS X kX8_383 (tX8_letterOf w k hw hk) rfl rfl (Nat.le_of_ble_eq_true rfl) ⟨by decide, by decide⟩ ⟨by decide, by decide⟩ dX8_withLetter_4 ?_
  rintro _ g1 s1 ⟨rfl, h8, h9⟩
  replace h8 := h8.symm
  subst h8
  replace h9 := h9.symm
  subst h9
  refine z_isub X dX8_withLetter_7 ?_
  refine z_iload_n X dX8_withLetter_8 rfl ?_
  refine z_runS X kX8_380 (tX8_weightOf k hk) rfl rfl (Nat.le_of_ble_eq_true rfl) ⟨by decide, by decide⟩ ⟨by decide, by decide⟩ dX8_withLetter_9 ?_
  rintro _ g1 s1 ⟨rfl, h8, h9⟩
  replace h8 := h8.symm
  subst h8
  replace h9 := h9.symm
  subst h9
  refine z_imul X dX8_withLetter_12 ?_
  refine z_iadd X dX8_withLetter_13 ?_
  refine z_iret X (by decide) (by decide) rfl dX8_withLetter_14 ?_
  exact zI_e rfl rfl rfl

set_option maxHeartbeats 4000000 in
set_option maxRecDepth 100000 in
theorem tX8_vowelsIn {l : Launch} {D : va_G} {cy : Nat → ClassId} {z0 : zRg} {g : zSh} {σ : zIn} (w : Nat) (hw : w < 2 ^ 31) : z_Ct l D cy z0 MX8_vowelsIn [.int (nI w)] g σ (zI (nI (zvw (nI w))) g σ) := by
  refine z_ofM (by decide) (z_ci z_c0) (Nat.le_of_ble_eq_true rfl) ?_
  intro p e s m args below meth c X
  have loop_4 : ∀ (n : Nat) (k : Nat) (vv : Option Value) (hk : k ≤ 5) (hn : 5 - k < n), z_V p l e (zRm MX8_vowelsIn) s m args below meth c 4 D cy z0 0 0 (zQm MX8_vowelsIn below D cy z0 (zI (nI (zvw (nI w))) g σ) args s) 4 [some (.int (nI w)), some (.int (nI (zvk (nI w) k))), some (.int (nI k)), vv] [] g σ := by
    intro n
    induction n with
    | zero => intro k vv hk hn; exact absurd hn (Nat.not_lt_zero _)
    | succ n ih_4 =>
      intro k vv hk hn
      refine z_iload_n X dX8_vowelsIn_4 rfl ?_
      refine z_iconst (v := nI 5) X (by decide) dX8_vowelsIn_5 ?_
      refine z_icmp_ge (tgt := 51) X dX8_vowelsIn_6 (by decide) (fun c_6 => ?_) (fun c_6 => ?_)
      · skip
        try simp (disch := omega) only [zk0, nI_leI, nI_ltI, nI_eq, zbk_notn, zbk_not, zbk_n0, zbk_0, zb_0, zb_n0, zb_not, zb_notn, Bool.not_eq_false, Bool.not_eq_true, Bool.not_eq_true', Bool.not_eq_false', decide_eq_true_eq, decide_eq_false_iff_not, Classical.not_not] at c_6
        refine z_iload_n X dX8_vowelsIn_51 rfl ?_
        refine z_iret X (by decide) (by decide) rfl dX8_vowelsIn_52 ?_
        have e : k = 5 := by omega
        subst e
        exact zI_e rfl rfl rfl
      · skip
        try simp (disch := omega) only [zk0, nI_leI, nI_ltI, nI_eq, zbk_notn, zbk_not, zbk_n0, zbk_0, zb_0, zb_n0, zb_not, zb_notn, Bool.not_eq_false, Bool.not_eq_true, Bool.not_eq_true', Bool.not_eq_false', decide_eq_true_eq, decide_eq_false_iff_not, Classical.not_not] at c_6
        refine z_iload_n X dX8_vowelsIn_9 rfl ?_
        refine z_iload_n X dX8_vowelsIn_10 rfl ?_
        refine z_runS X kX8_383 (tX8_letterOf w k hw (by omega)) rfl rfl (Nat.le_of_ble_eq_true rfl) ⟨by decide, by decide⟩ ⟨by decide, by decide⟩ dX8_vowelsIn_11 ?_
        rintro _ g1 s1 ⟨rfl, h8, h9⟩
        replace h8 := h8.symm
        subst h8
        replace h9 := h9.symm
        subst h9
        refine z_istore_n X dX8_vowelsIn_14 (by decide) ?_
        have hlt := zl_lt (nI w) k
        refine z_iload_n X dX8_vowelsIn_15 rfl ?_
        refine z_if_eq (tgt := 42) X dX8_vowelsIn_16 (by decide) (fun c_16 => ?_) (fun c_16 => ?_)
        · skip
          try simp (disch := omega) only [zk0, nI_leI, nI_ltI, nI_eq, zbk_notn, zbk_not, zbk_n0, zbk_0, zb_0, zb_n0, zb_not, zb_notn, Bool.not_eq_false, Bool.not_eq_true, Bool.not_eq_true', Bool.not_eq_false', decide_eq_true_eq, decide_eq_false_iff_not, Classical.not_not] at c_16
          refine z_inc1 X dX8_vowelsIn_42 rfl (by decide) ?_
          refine z_inc1 X dX8_vowelsIn_45 rfl (by decide) ?_
          refine z_goto (tgt := 4) X dX8_vowelsIn_48 (by decide) ?_
          have e2 := fun vv => ih_4 (k + 1) vv (by omega) (by omega)
          first | (rw [zvk_y (by simp only [zvl, decide_eq_true_eq]; omega)] at e2; exact e2 _) | (rw [zvk_n (by simp only [zvl, decide_eq_false_iff_not]; omega)] at e2; exact e2 _)
        · skip
          try simp (disch := omega) only [zk0, nI_leI, nI_ltI, nI_eq, zbk_notn, zbk_not, zbk_n0, zbk_0, zb_0, zb_n0, zb_not, zb_notn, Bool.not_eq_false, Bool.not_eq_true, Bool.not_eq_true', Bool.not_eq_false', decide_eq_true_eq, decide_eq_false_iff_not, Classical.not_not] at c_16
          refine z_iload_n X dX8_vowelsIn_19 rfl ?_
          refine z_iconst (v := nI 4) X (by decide) dX8_vowelsIn_20 ?_
          refine z_icmp_eq (tgt := 42) X dX8_vowelsIn_21 (by decide) (fun c_21 => ?_) (fun c_21 => ?_)
          · skip
            try simp (disch := omega) only [zk0, nI_leI, nI_ltI, nI_eq, zbk_notn, zbk_not, zbk_n0, zbk_0, zb_0, zb_n0, zb_not, zb_notn, Bool.not_eq_false, Bool.not_eq_true, Bool.not_eq_true', Bool.not_eq_false', decide_eq_true_eq, decide_eq_false_iff_not, Classical.not_not] at c_21
            refine z_inc1 X dX8_vowelsIn_42 rfl (by decide) ?_
            refine z_inc1 X dX8_vowelsIn_45 rfl (by decide) ?_
            refine z_goto (tgt := 4) X dX8_vowelsIn_48 (by decide) ?_
            have e2 := fun vv => ih_4 (k + 1) vv (by omega) (by omega)
            first | (rw [zvk_y (by simp only [zvl, decide_eq_true_eq]; omega)] at e2; exact e2 _) | (rw [zvk_n (by simp only [zvl, decide_eq_false_iff_not]; omega)] at e2; exact e2 _)
          · skip
            try simp (disch := omega) only [zk0, nI_leI, nI_ltI, nI_eq, zbk_notn, zbk_not, zbk_n0, zbk_0, zb_0, zb_n0, zb_not, zb_notn, Bool.not_eq_false, Bool.not_eq_true, Bool.not_eq_true', Bool.not_eq_false', decide_eq_true_eq, decide_eq_false_iff_not, Classical.not_not] at c_21
            refine z_iload_n X dX8_vowelsIn_24 rfl ?_
            refine z_bipush (v := nI 8) X (by decide) dX8_vowelsIn_25 ?_
            refine z_icmp_eq (tgt := 42) X dX8_vowelsIn_27 (by decide) (fun c_27 => ?_) (fun c_27 => ?_)
            · skip
              try simp (disch := omega) only [zk0, nI_leI, nI_ltI, nI_eq, zbk_notn, zbk_not, zbk_n0, zbk_0, zb_0, zb_n0, zb_not, zb_notn, Bool.not_eq_false, Bool.not_eq_true, Bool.not_eq_true', Bool.not_eq_false', decide_eq_true_eq, decide_eq_false_iff_not, Classical.not_not] at c_27
              refine z_inc1 X dX8_vowelsIn_42 rfl (by decide) ?_
              refine z_inc1 X dX8_vowelsIn_45 rfl (by decide) ?_
              refine z_goto (tgt := 4) X dX8_vowelsIn_48 (by decide) ?_
              have e2 := fun vv => ih_4 (k + 1) vv (by omega) (by omega)
              first | (rw [zvk_y (by simp only [zvl, decide_eq_true_eq]; omega)] at e2; exact e2 _) | (rw [zvk_n (by simp only [zvl, decide_eq_false_iff_not]; omega)] at e2; exact e2 _)
            · skip
              try simp (disch := omega) only [zk0, nI_leI, nI_ltI, nI_eq, zbk_notn, zbk_not, zbk_n0, zbk_0, zb_0, zb_n0, zb_not, zb_notn, Bool.not_eq_false, Bool.not_eq_true, Bool.not_eq_true', Bool.not_eq_false', decide_eq_true_eq, decide_eq_false_iff_not, Classical.not_not] at c_27
              refine z_iload_n X dX8_vowelsIn_30 rfl ?_
              refine z_bipush (v := nI 14) X (by decide) dX8_vowelsIn_31 ?_
              refine z_icmp_eq (tgt := 42) X dX8_vowelsIn_33 (by decide) (fun c_33 => ?_) (fun c_33 => ?_)
              · skip
                try simp (disch := omega) only [zk0, nI_leI, nI_ltI, nI_eq, zbk_notn, zbk_not, zbk_n0, zbk_0, zb_0, zb_n0, zb_not, zb_notn, Bool.not_eq_false, Bool.not_eq_true, Bool.not_eq_true', Bool.not_eq_false', decide_eq_true_eq, decide_eq_false_iff_not, Classical.not_not] at c_33
                refine z_inc1 X dX8_vowelsIn_42 rfl (by decide) ?_
                refine z_inc1 X dX8_vowelsIn_45 rfl (by decide) ?_
                refine z_goto (tgt := 4) X dX8_vowelsIn_48 (by decide) ?_
                have e2 := fun vv => ih_4 (k + 1) vv (by omega) (by omega)
                first | (rw [zvk_y (by simp only [zvl, decide_eq_true_eq]; omega)] at e2; exact e2 _) | (rw [zvk_n (by simp only [zvl, decide_eq_false_iff_not]; omega)] at e2; exact e2 _)
              · skip
                try simp (disch := omega) only [zk0, nI_leI, nI_ltI, nI_eq, zbk_notn, zbk_not, zbk_n0, zbk_0, zb_0, zb_n0, zb_not, zb_notn, Bool.not_eq_false, Bool.not_eq_true, Bool.not_eq_true', Bool.not_eq_false', decide_eq_true_eq, decide_eq_false_iff_not, Classical.not_not] at c_33
                refine z_iload_n X dX8_vowelsIn_36 rfl ?_
                refine z_bipush (v := nI 20) X (by decide) dX8_vowelsIn_37 ?_
                refine z_icmp_ne (tgt := 45) X dX8_vowelsIn_39 (by decide) (fun c_39 => ?_) (fun c_39 => ?_)
                · skip
                  try simp (disch := omega) only [zk0, nI_leI, nI_ltI, nI_eq, zbk_notn, zbk_not, zbk_n0, zbk_0, zb_0, zb_n0, zb_not, zb_notn, Bool.not_eq_false, Bool.not_eq_true, Bool.not_eq_true', Bool.not_eq_false', decide_eq_true_eq, decide_eq_false_iff_not, Classical.not_not] at c_39
                  refine z_inc1 X dX8_vowelsIn_45 rfl (by decide) ?_
                  refine z_goto (tgt := 4) X dX8_vowelsIn_48 (by decide) ?_
                  have e2 := fun vv => ih_4 (k + 1) vv (by omega) (by omega)
                  first | (rw [zvk_y (by simp only [zvl, decide_eq_true_eq]; omega)] at e2; exact e2 _) | (rw [zvk_n (by simp only [zvl, decide_eq_false_iff_not]; omega)] at e2; exact e2 _)
                · skip
                  try simp (disch := omega) only [zk0, nI_leI, nI_ltI, nI_eq, zbk_notn, zbk_not, zbk_n0, zbk_0, zb_0, zb_n0, zb_not, zb_notn, Bool.not_eq_false, Bool.not_eq_true, Bool.not_eq_true', Bool.not_eq_false', decide_eq_true_eq, decide_eq_false_iff_not, Classical.not_not] at c_39
                  refine z_inc1 X dX8_vowelsIn_42 rfl (by decide) ?_
                  refine z_inc1 X dX8_vowelsIn_45 rfl (by decide) ?_
                  refine z_goto (tgt := 4) X dX8_vowelsIn_48 (by decide) ?_
                  have e2 := fun vv => ih_4 (k + 1) vv (by omega) (by omega)
                  first | (rw [zvk_y (by simp only [zvl, decide_eq_true_eq]; omega)] at e2; exact e2 _) | (rw [zvk_n (by simp only [zvl, decide_eq_false_iff_not]; omega)] at e2; exact e2 _)
  refine z_iconst (v := nI 0) X (by decide) dX8_vowelsIn_0 ?_
  refine z_istore_n X dX8_vowelsIn_1 (by decide) ?_
  refine z_iconst (v := nI 0) X (by decide) dX8_vowelsIn_2 ?_
  refine z_istore_n X dX8_vowelsIn_3 (by decide) ?_
  exact loop_4 (5 - 0 + 1) 0 none (by omega) (by omega)

set_option maxHeartbeats 4000000 in
set_option maxRecDepth 100000 in
theorem tX8_partsOf {l : Launch} {D : va_G} {cy : Nat → ClassId} {z0 : zRg} {g : zSh} {σ : zIn} (w v : Nat) (hw : w < 2 ^ 31) (hv : v < 2 ^ 31) : z_Ct l D cy z0 MX8_partsOf [.int (nI w), .int (nI v)] g σ (zI (nI (zp (nI w) (nI v))) g σ) := by
  refine z_ofM (by decide) (z_ci (z_ci z_c0)) (Nat.le_of_ble_eq_true rfl) ?_
  intro p e s m args below meth c X
  have loop_4 : ∀ (n : Nat) (k : Nat) (hk : k ≤ 5) (hn : 5 - k < n), z_V p l e (zRm MX8_partsOf) s m args below meth c 4 D cy z0 0 0 (zQm MX8_partsOf below D cy z0 (zI (nI (zp (nI w) (nI v))) g σ) args s) 4 [some (.int (nI w)), some (.int (nI v)), some (.int (nI (zpk (nI w) (nI v) k))), some (.int (nI k))] [] g σ := by
    intro n
    induction n with
    | zero => intro k hk hn; exact absurd hn (Nat.not_lt_zero _)
    | succ n ih_4 =>
      intro k hk hn
      refine z_iload_n X dX8_partsOf_4 rfl ?_
      refine z_iconst (v := nI 5) X (by decide) dX8_partsOf_5 ?_
      refine z_icmp_ge (tgt := 31) X dX8_partsOf_6 (by decide) (fun c_6 => ?_) (fun c_6 => ?_)
      · skip
        try simp (disch := omega) only [zk0, nI_leI, nI_ltI, nI_eq, zbk_notn, zbk_not, zbk_n0, zbk_0, zb_0, zb_n0, zb_not, zb_notn, Bool.not_eq_false, Bool.not_eq_true, Bool.not_eq_true', Bool.not_eq_false', decide_eq_true_eq, decide_eq_false_iff_not, Classical.not_not] at c_6
        refine z_iload_n X dX8_partsOf_31 rfl ?_
        refine z_iret X (by decide) (by decide) rfl dX8_partsOf_32 ?_
        have e : k = 5 := by omega
        subst e
        exact zI_e rfl rfl rfl
      · skip
        try simp (disch := omega) only [zk0, nI_leI, nI_ltI, nI_eq, zbk_notn, zbk_not, zbk_n0, zbk_0, zb_0, zb_n0, zb_not, zb_notn, Bool.not_eq_false, Bool.not_eq_true, Bool.not_eq_true', Bool.not_eq_false', decide_eq_true_eq, decide_eq_false_iff_not, Classical.not_not] at c_6
        refine z_iload_n X dX8_partsOf_9 rfl ?_
        refine z_iload_n X dX8_partsOf_10 rfl ?_
        refine z_runS X kX8_383 (tX8_letterOf w k hw (by omega)) rfl rfl (Nat.le_of_ble_eq_true rfl) ⟨by decide, by decide⟩ ⟨by decide, by decide⟩ dX8_partsOf_11 ?_
        rintro _ g1 s1 ⟨rfl, h8, h9⟩
        replace h8 := h8.symm
        subst h8
        replace h9 := h9.symm
        subst h9
        refine z_iload_n X dX8_partsOf_14 rfl ?_
        refine z_iload_n X dX8_partsOf_15 rfl ?_
        refine z_runS X kX8_383 (tX8_letterOf v k hv (by omega)) rfl rfl (Nat.le_of_ble_eq_true rfl) ⟨by decide, by decide⟩ ⟨by decide, by decide⟩ dX8_partsOf_16 ?_
        rintro _ g1 s1 ⟨rfl, h8, h9⟩
        replace h8 := h8.symm
        subst h8
        replace h9 := h9.symm
        subst h9
        have hl1 := zl_lt (nI w) k
        have hl2 := zl_lt (nI v) k
        refine z_icmp_eq (tgt := 25) X dX8_partsOf_19 (by decide) (fun c_19 => ?_) (fun c_19 => ?_)
        · skip
          try simp (disch := omega) only [zk0, nI_leI, nI_ltI, nI_eq, zbk_notn, zbk_not, zbk_n0, zbk_0, zb_0, zb_n0, zb_not, zb_notn, Bool.not_eq_false, Bool.not_eq_true, Bool.not_eq_true', Bool.not_eq_false', decide_eq_true_eq, decide_eq_false_iff_not, Classical.not_not] at c_19
          refine z_inc1 X dX8_partsOf_25 rfl (by decide) ?_
          refine z_goto (tgt := 4) X dX8_partsOf_28 (by decide) ?_
          have e2 := ih_4 (k + 1) (by omega) (by omega)
          first | (rw [zpk_y c_19] at e2; exact e2) | (rw [zpk_n c_19] at e2; exact e2)
        · skip
          try simp (disch := omega) only [zk0, nI_leI, nI_ltI, nI_eq, zbk_notn, zbk_not, zbk_n0, zbk_0, zb_0, zb_n0, zb_not, zb_notn, Bool.not_eq_false, Bool.not_eq_true, Bool.not_eq_true', Bool.not_eq_false', decide_eq_true_eq, decide_eq_false_iff_not, Classical.not_not] at c_19
          refine z_inc1 X dX8_partsOf_22 rfl (by decide) ?_
          refine z_inc1 X dX8_partsOf_25 rfl (by decide) ?_
          refine z_goto (tgt := 4) X dX8_partsOf_28 (by decide) ?_
          have e2 := ih_4 (k + 1) (by omega) (by omega)
          first | (rw [zpk_y c_19] at e2; exact e2) | (rw [zpk_n c_19] at e2; exact e2)
  refine z_iconst (v := nI 0) X (by decide) dX8_partsOf_0 ?_
  refine z_istore_n X dX8_partsOf_1 (by decide) ?_
  refine z_iconst (v := nI 0) X (by decide) dX8_partsOf_2 ?_
  refine z_istore_n X dX8_partsOf_3 (by decide) ?_
  exact loop_4 (5 - 0 + 1) 0 (by omega) (by omega)

def zfst (w v : Int32) (f : Nat) : Prop := f ≤ 5 ∧ (∀ j, j < f → zl w j = zl v j) ∧ (f < 5 → zl w f ≠ zl v f)
def zF (w v : Int32) (g' : zSh) (σ' : zIn) : Option Value → zSh → zIn → Prop := fun r g σ => ∃ f, r = some (.int (nI f)) ∧ g = g' ∧ σ = σ' ∧ zfst w v f
set_option maxHeartbeats 4000000 in
set_option maxRecDepth 100000 in
theorem tX8_firstPart {l : Launch} {D : va_G} {cy : Nat → ClassId} {z0 : zRg} {g : zSh} {σ : zIn} (w v : Nat) (hw : w < 2 ^ 31) (hv : v < 2 ^ 31) : z_Ct l D cy z0 MX8_firstPart [.int (nI w), .int (nI v)] g σ (zF (nI w) (nI v) g σ) := by
  refine z_ofM (by decide) (z_ci (z_ci z_c0)) (Nat.le_of_ble_eq_true rfl) ?_
  intro p e s m args below meth c X
  have loop_2 : ∀ (n : Nat) (k : Nat) (hk : k ≤ 5) (hj : ∀ j, j < k → zl (nI w) j = zl (nI v) j) (hn : 5 - k < n), z_V p l e (zRm MX8_firstPart) s m args below meth c 3 D cy z0 0 0 (zQm MX8_firstPart below D cy z0 (zF (nI w) (nI v) g σ) args s) 2 [some (.int (nI w)), some (.int (nI v)), some (.int (nI k))] [] g σ := by
    intro n
    induction n with
    | zero => intro k hk hj hn; exact absurd hn (Nat.not_lt_zero _)
    | succ n ih_2 =>
      intro k hk hj hn
      refine z_iload_n X dX8_firstPart_2 rfl ?_
      refine z_iconst (v := nI 5) X (by decide) dX8_firstPart_3 ?_
      refine z_icmp_ge (tgt := 26) X dX8_firstPart_4 (by decide) (fun c_4 => ?_) (fun c_4 => ?_)
      · skip
        try simp (disch := omega) only [zk0, nI_leI, nI_ltI, nI_eq, zbk_notn, zbk_not, zbk_n0, zbk_0, zb_0, zb_n0, zb_not, zb_notn, Bool.not_eq_false, Bool.not_eq_true, Bool.not_eq_true', Bool.not_eq_false', decide_eq_true_eq, decide_eq_false_iff_not, Classical.not_not] at c_4
        refine z_iload_n X dX8_firstPart_26 rfl ?_
        refine z_iret X (by decide) (by decide) rfl dX8_firstPart_27 ?_
        exact ⟨k, rfl, rfl, rfl, hk, hj, fun h => by first | assumption | omega⟩
      · skip
        try simp (disch := omega) only [zk0, nI_leI, nI_ltI, nI_eq, zbk_notn, zbk_not, zbk_n0, zbk_0, zb_0, zb_n0, zb_not, zb_notn, Bool.not_eq_false, Bool.not_eq_true, Bool.not_eq_true', Bool.not_eq_false', decide_eq_true_eq, decide_eq_false_iff_not, Classical.not_not] at c_4
        refine z_iload_n X dX8_firstPart_7 rfl ?_
        refine z_iload_n X dX8_firstPart_8 rfl ?_
        refine z_runS X kX8_383 (tX8_letterOf w k hw (by omega)) rfl rfl (Nat.le_of_ble_eq_true rfl) ⟨by decide, by decide⟩ ⟨by decide, by decide⟩ dX8_firstPart_9 ?_
        rintro _ g1 s1 ⟨rfl, h8, h9⟩
        replace h8 := h8.symm
        subst h8
        replace h9 := h9.symm
        subst h9
        refine z_iload_n X dX8_firstPart_12 rfl ?_
        refine z_iload_n X dX8_firstPart_13 rfl ?_
        refine z_runS X kX8_383 (tX8_letterOf v k hv (by omega)) rfl rfl (Nat.le_of_ble_eq_true rfl) ⟨by decide, by decide⟩ ⟨by decide, by decide⟩ dX8_firstPart_14 ?_
        rintro _ g1 s1 ⟨rfl, h8, h9⟩
        replace h8 := h8.symm
        subst h8
        replace h9 := h9.symm
        subst h9
        have hl1 := zl_lt (nI w) k
        have hl2 := zl_lt (nI v) k
        refine z_icmp_ne (tgt := 26) X dX8_firstPart_17 (by decide) (fun c_17 => ?_) (fun c_17 => ?_)
        · skip
          try simp (disch := omega) only [zk0, nI_leI, nI_ltI, nI_eq, zbk_notn, zbk_not, zbk_n0, zbk_0, zb_0, zb_n0, zb_not, zb_notn, Bool.not_eq_false, Bool.not_eq_true, Bool.not_eq_true', Bool.not_eq_false', decide_eq_true_eq, decide_eq_false_iff_not, Classical.not_not] at c_17
          refine z_iload_n X dX8_firstPart_26 rfl ?_
          refine z_iret X (by decide) (by decide) rfl dX8_firstPart_27 ?_
          exact ⟨k, rfl, rfl, rfl, hk, hj, fun h => by first | assumption | omega⟩
        · skip
          try simp (disch := omega) only [zk0, nI_leI, nI_ltI, nI_eq, zbk_notn, zbk_not, zbk_n0, zbk_0, zb_0, zb_n0, zb_not, zb_notn, Bool.not_eq_false, Bool.not_eq_true, Bool.not_eq_true', Bool.not_eq_false', decide_eq_true_eq, decide_eq_false_iff_not, Classical.not_not] at c_17
          refine z_inc1 X dX8_firstPart_20 rfl (by decide) ?_
          refine z_goto (tgt := 2) X dX8_firstPart_23 (by decide) ?_
          exact ih_2 (k + 1) (by omega) (fun j hj9 => by
            by_cases e : j = k
            · rw [e]; assumption
            · exact hj j (by omega)) (by omega)
  refine z_iconst (v := nI 0) X (by decide) dX8_firstPart_0 ?_
  refine z_istore_n X dX8_firstPart_1 (by decide) ?_
  exact loop_2 (5 - 0 + 1) 0 (by omega) (fun j hj => absurd hj (Nat.not_lt_zero _)) (by omega)

theorem zt_iff {w v : Int32} {f : Nat} (h : zfst w v f) (hp : zp w v = 2) : zt w v ↔ (f < 4 ∧ zl w f = zl v (f + 1) ∧ zl w (f + 1) = zl v f) := by
  obtain ⟨h1, h2, h3⟩ := h
  unfold zt ztn
  constructor
  · rintro ⟨-, k, k1, k2, k3, k4⟩
    have hfk : f ≤ k := by
      rcases Nat.lt_or_ge k f with q | q
      · exact absurd (h2 k q) k4
      · exact q
    by_cases e : f = k
    · subst e; exact ⟨k1, k2, k3⟩
    · exfalso
      have hf : zl w f ≠ zl v f := h3 (by omega)
      have hk1 : zl w (k + 1) ≠ zl v (k + 1) := by rw [k3, ← k2]; exact fun h => k4 h.symm
      unfold zp at hp
      simp only [zpk] at hp
      have : f = 0 ∨ f = 1 ∨ f = 2 ∨ f = 3 := by omega
      have : k = 1 ∨ k = 2 ∨ k = 3 := by omega
      rcases ‹f = 0 ∨ _› with rfl | rfl | rfl | rfl <;> rcases ‹k = 1 ∨ _› with rfl | rfl | rfl <;> (try omega) <;> (simp only [hf, k4, hk1, if_false] at hp; split at hp <;> split at hp <;> omega)
  · rintro ⟨k1, k2, k3⟩
    exact ⟨hp, f, k1, k2, k3, h3 (by omega)⟩
def zT (w v : Int32) (g' : zSh) (σ' : zIn) : Option Value → zSh → zIn → Prop := fun r g σ => ∃ b : Bool, r = some (.int (zb b)) ∧ g = g' ∧ σ = σ' ∧ (b = true ↔ zt w v)
set_option maxHeartbeats 4000000 in
set_option maxRecDepth 100000 in
theorem tX8_isTurned {l : Launch} {D : va_G} {cy : Nat → ClassId} {z0 : zRg} {g : zSh} {σ : zIn} (w v : Nat) (hw : w < 2 ^ 31) (hv : v < 2 ^ 31) : z_Ct l D cy z0 MX8_isTurned [.int (nI w), .int (nI v)] g σ (zT (nI w) (nI v) g σ) := by
  refine z_ofM (by decide) (z_ci (z_ci z_c0)) (Nat.le_of_ble_eq_true rfl) ?_
  intro p e s m args below meth c X
  refine z_iload_n X dX8_isTurned_0 rfl ?_
  refine z_iload_n X dX8_isTurned_1 rfl ?_
  refine z_runS X kX8_316 (tX8_firstPart w v hw hv) rfl rfl (Nat.le_of_ble_eq_true rfl) ⟨by decide, by decide⟩ ⟨by decide, by decide⟩ dX8_isTurned_2 ?_
  rintro _ g1 s1 ⟨f, rfl, h8, h9, hf⟩
  replace h8 := h8.symm
  subst h8
  replace h9 := h9.symm
  subst h9
  have hf5 := hf.1
  have hpp := zpk_le (nI w) (nI v) 5
  refine z_istore_n X dX8_isTurned_5 (by decide) ?_
  refine z_iload_n X dX8_isTurned_6 rfl ?_
  refine z_iconst (v := nI 4) X (by decide) dX8_isTurned_7 ?_
  refine z_icmp_ge (tgt := 54) X dX8_isTurned_8 (by decide) (fun c_8 => ?_) (fun c_8 => ?_)
  · skip
    try simp (disch := omega) only [zk0, nI_leI, nI_ltI, nI_eq, zbk_notn, zbk_not, zbk_n0, zbk_0, zb_0, zb_n0, zb_not, zb_notn, Bool.not_eq_false, Bool.not_eq_true, Bool.not_eq_true', Bool.not_eq_false', decide_eq_true_eq, decide_eq_false_iff_not, Classical.not_not] at c_8
    refine z_iconst (v := nI 0) X (by decide) dX8_isTurned_54 ?_
    refine z_zret X (by decide) (by decide) rfl (by first | exact Or.inl rfl | exact Or.inr rfl | exact zb_01 _ | assumption) dX8_isTurned_55 ?_
    first
      | exact ⟨true, rfl, rfl, rfl, by simp only [zt_iff hf c_17, true_iff]; exact ⟨by omega, c_32, c_47⟩⟩
      | exact ⟨false, rfl, rfl, rfl, by simp only [Bool.false_eq_true, false_iff]; intro hz; first | exact c_17 hz.1 | exact c_32 ((zt_iff hf c_17).mp hz).2.1 | exact c_47 ((zt_iff hf c_17).mp hz).2.2 | (have hq := (zt_iff hf hz.1).mp hz; omega)⟩
  · skip
    try simp (disch := omega) only [zk0, nI_leI, nI_ltI, nI_eq, zbk_notn, zbk_not, zbk_n0, zbk_0, zb_0, zb_n0, zb_not, zb_notn, Bool.not_eq_false, Bool.not_eq_true, Bool.not_eq_true', Bool.not_eq_false', decide_eq_true_eq, decide_eq_false_iff_not, Classical.not_not] at c_8
    refine z_iload_n X dX8_isTurned_11 rfl ?_
    refine z_iload_n X dX8_isTurned_12 rfl ?_
    refine z_runS X kX8_386 (tX8_partsOf w v hw hv) rfl rfl (Nat.le_of_ble_eq_true rfl) ⟨by decide, by decide⟩ ⟨by decide, by decide⟩ dX8_isTurned_13 ?_
    rintro _ g1 s1 ⟨rfl, h8, h9⟩
    replace h8 := h8.symm
    subst h8
    replace h9 := h9.symm
    subst h9
    have hpp2 : zp (nI w) (nI v) ≤ 5 := hpp
    refine z_iconst (v := nI 2) X (by decide) dX8_isTurned_16 ?_
    refine z_icmp_ne (tgt := 54) X dX8_isTurned_17 (by decide) (fun c_17 => ?_) (fun c_17 => ?_)
    · skip
      try simp (disch := omega) only [zk0, nI_leI, nI_ltI, nI_eq, zbk_notn, zbk_not, zbk_n0, zbk_0, zb_0, zb_n0, zb_not, zb_notn, Bool.not_eq_false, Bool.not_eq_true, Bool.not_eq_true', Bool.not_eq_false', decide_eq_true_eq, decide_eq_false_iff_not, Classical.not_not] at c_17
      refine z_iconst (v := nI 0) X (by decide) dX8_isTurned_54 ?_
      refine z_zret X (by decide) (by decide) rfl (by first | exact Or.inl rfl | exact Or.inr rfl | exact zb_01 _ | assumption) dX8_isTurned_55 ?_
      first
        | exact ⟨true, rfl, rfl, rfl, by simp only [zt_iff hf c_17, true_iff]; exact ⟨by omega, c_32, c_47⟩⟩
        | exact ⟨false, rfl, rfl, rfl, by simp only [Bool.false_eq_true, false_iff]; intro hz; first | exact c_17 hz.1 | exact c_32 ((zt_iff hf c_17).mp hz).2.1 | exact c_47 ((zt_iff hf c_17).mp hz).2.2 | (have hq := (zt_iff hf hz.1).mp hz; omega)⟩
    · skip
      try simp (disch := omega) only [zk0, nI_leI, nI_ltI, nI_eq, zbk_notn, zbk_not, zbk_n0, zbk_0, zb_0, zb_n0, zb_not, zb_notn, Bool.not_eq_false, Bool.not_eq_true, Bool.not_eq_true', Bool.not_eq_false', decide_eq_true_eq, decide_eq_false_iff_not, Classical.not_not] at c_17
      refine z_iload_n X dX8_isTurned_20 rfl ?_
      refine z_iload_n X dX8_isTurned_21 rfl ?_
      refine z_runS X kX8_383 (tX8_letterOf w f hw (by omega)) rfl rfl (Nat.le_of_ble_eq_true rfl) ⟨by decide, by decide⟩ ⟨by decide, by decide⟩ dX8_isTurned_22 ?_
      rintro _ g1 s1 ⟨rfl, h8, h9⟩
      replace h8 := h8.symm
      subst h8
      replace h9 := h9.symm
      subst h9
      refine z_iload_n X dX8_isTurned_25 rfl ?_
      refine z_iload_n X dX8_isTurned_26 rfl ?_
      refine z_iconst (v := nI 1) X (by decide) dX8_isTurned_27 ?_
      refine z_iaddN X dX8_isTurned_28 ?_
      refine z_runS X kX8_383 (tX8_letterOf v (f + 1) hv (by omega)) rfl rfl (Nat.le_of_ble_eq_true rfl) ⟨by decide, by decide⟩ ⟨by decide, by decide⟩ dX8_isTurned_29 ?_
      rintro _ g1 s1 ⟨rfl, h8, h9⟩
      replace h8 := h8.symm
      subst h8
      replace h9 := h9.symm
      subst h9
      have hl1 := zl_lt (nI w) f
      have hl2 := zl_lt (nI v) (f + 1)
      refine z_icmp_ne (tgt := 54) X dX8_isTurned_32 (by decide) (fun c_32 => ?_) (fun c_32 => ?_)
      · skip
        try simp (disch := omega) only [zk0, nI_leI, nI_ltI, nI_eq, zbk_notn, zbk_not, zbk_n0, zbk_0, zb_0, zb_n0, zb_not, zb_notn, Bool.not_eq_false, Bool.not_eq_true, Bool.not_eq_true', Bool.not_eq_false', decide_eq_true_eq, decide_eq_false_iff_not, Classical.not_not] at c_32
        refine z_iconst (v := nI 0) X (by decide) dX8_isTurned_54 ?_
        refine z_zret X (by decide) (by decide) rfl (by first | exact Or.inl rfl | exact Or.inr rfl | exact zb_01 _ | assumption) dX8_isTurned_55 ?_
        first
          | exact ⟨true, rfl, rfl, rfl, by simp only [zt_iff hf c_17, true_iff]; exact ⟨by omega, c_32, c_47⟩⟩
          | exact ⟨false, rfl, rfl, rfl, by simp only [Bool.false_eq_true, false_iff]; intro hz; first | exact c_17 hz.1 | exact c_32 ((zt_iff hf c_17).mp hz).2.1 | exact c_47 ((zt_iff hf c_17).mp hz).2.2 | (have hq := (zt_iff hf hz.1).mp hz; omega)⟩
      · skip
        try simp (disch := omega) only [zk0, nI_leI, nI_ltI, nI_eq, zbk_notn, zbk_not, zbk_n0, zbk_0, zb_0, zb_n0, zb_not, zb_notn, Bool.not_eq_false, Bool.not_eq_true, Bool.not_eq_true', Bool.not_eq_false', decide_eq_true_eq, decide_eq_false_iff_not, Classical.not_not] at c_32
        refine z_iload_n X dX8_isTurned_35 rfl ?_
        refine z_iload_n X dX8_isTurned_36 rfl ?_
        refine z_iconst (v := nI 1) X (by decide) dX8_isTurned_37 ?_
        refine z_iaddN X dX8_isTurned_38 ?_
        refine z_runS X kX8_383 (tX8_letterOf w (f + 1) hw (by omega)) rfl rfl (Nat.le_of_ble_eq_true rfl) ⟨by decide, by decide⟩ ⟨by decide, by decide⟩ dX8_isTurned_39 ?_
        rintro _ g1 s1 ⟨rfl, h8, h9⟩
        replace h8 := h8.symm
        subst h8
        replace h9 := h9.symm
        subst h9
        refine z_iload_n X dX8_isTurned_42 rfl ?_
        refine z_iload_n X dX8_isTurned_43 rfl ?_
        refine z_runS X kX8_383 (tX8_letterOf v f hv (by omega)) rfl rfl (Nat.le_of_ble_eq_true rfl) ⟨by decide, by decide⟩ ⟨by decide, by decide⟩ dX8_isTurned_44 ?_
        rintro _ g1 s1 ⟨rfl, h8, h9⟩
        replace h8 := h8.symm
        subst h8
        replace h9 := h9.symm
        subst h9
        have hl3 := zl_lt (nI w) (f + 1)
        have hl4 := zl_lt (nI v) f
        refine z_icmp_ne (tgt := 54) X dX8_isTurned_47 (by decide) (fun c_47 => ?_) (fun c_47 => ?_)
        · skip
          try simp (disch := omega) only [zk0, nI_leI, nI_ltI, nI_eq, zbk_notn, zbk_not, zbk_n0, zbk_0, zb_0, zb_n0, zb_not, zb_notn, Bool.not_eq_false, Bool.not_eq_true, Bool.not_eq_true', Bool.not_eq_false', decide_eq_true_eq, decide_eq_false_iff_not, Classical.not_not] at c_47
          refine z_iconst (v := nI 0) X (by decide) dX8_isTurned_54 ?_
          refine z_zret X (by decide) (by decide) rfl (by first | exact Or.inl rfl | exact Or.inr rfl | exact zb_01 _ | assumption) dX8_isTurned_55 ?_
          first
            | exact ⟨true, rfl, rfl, rfl, by simp only [zt_iff hf c_17, true_iff]; exact ⟨by omega, c_32, c_47⟩⟩
            | exact ⟨false, rfl, rfl, rfl, by simp only [Bool.false_eq_true, false_iff]; intro hz; first | exact c_17 hz.1 | exact c_32 ((zt_iff hf c_17).mp hz).2.1 | exact c_47 ((zt_iff hf c_17).mp hz).2.2 | (have hq := (zt_iff hf hz.1).mp hz; omega)⟩
        · skip
          try simp (disch := omega) only [zk0, nI_leI, nI_ltI, nI_eq, zbk_notn, zbk_not, zbk_n0, zbk_0, zb_0, zb_n0, zb_not, zb_notn, Bool.not_eq_false, Bool.not_eq_true, Bool.not_eq_true', Bool.not_eq_false', decide_eq_true_eq, decide_eq_false_iff_not, Classical.not_not] at c_47
          refine z_iconst (v := nI 1) X (by decide) dX8_isTurned_50 ?_
          refine z_goto (tgt := 55) X dX8_isTurned_51 (by decide) ?_
          refine z_zret X (by decide) (by decide) rfl (by first | exact Or.inl rfl | exact Or.inr rfl | exact zb_01 _ | assumption) dX8_isTurned_55 ?_
          first
            | exact ⟨true, rfl, rfl, rfl, by simp only [zt_iff hf c_17, true_iff]; exact ⟨by omega, c_32, c_47⟩⟩
            | exact ⟨false, rfl, rfl, rfl, by simp only [Bool.false_eq_true, false_iff]; intro hz; first | exact c_17 hz.1 | exact c_32 ((zt_iff hf c_17).mp hz).2.1 | exact c_47 ((zt_iff hf c_17).mp hz).2.2 | (have hq := (zt_iff hf hz.1).mp hz; omega)⟩
