/-! contracts of the reference: routes -/
def zCR (σ : zIn) (nc no : Nat) (ad ot rt sp : Nat → Nat) (br : Nat → Bool) : Prop := ∀ c, c < nc → σ 29 c = nI (ad c) ∧ ad c < no ∧ σ 30 c = nI (ot c) ∧ ot c < no ∧ ad c ≠ ot c ∧ σ 31 c = nI (rt c) ∧ 1 ≤ rt c ∧ rt c ≤ 100 ∧ σ 32 c = nI (sp c) ∧ 1 ≤ sp c ∧ sp c ≤ 20 ∧ σ 33 c = zb (br c)
theorem zCR_e {σ τ : zIn} {nc no : Nat} {ad ot rt sp : Nat → Nat} {br : Nat → Bool} (h : zCR σ nc no ad ot rt sp br) (e : ∀ i, 29 ≤ i → i ≤ 33 → τ i = σ i) : zCR τ nc no ad ot rt sp br := by
  intro c hc
  rw [e 29 (by decide) (by decide), e 30 (by decide) (by decide), e 31 (by decide) (by decide), e 32 (by decide) (by decide), e 33 (by decide) (by decide)]
  exact h c hc
/-- the far end, as the reference finds it -/
def zend (ad ot : Nat → Nat) (c a : Nat) : Int32 := if a = ad c then nI (ot c) else if a = ot c then nI (ad c) else -1
theorem zend_t {ad ot : Nat → Nat} {c a : Nat} (h : a = ad c ∨ a = ot c) : zend ad ot c a = nI (zoe ad ot c a) := by
  unfold zend zoe
  by_cases e : a = ad c
  · rw [if_pos e, if_pos e]
  · rw [if_neg e, if_neg e, if_pos (h.resolve_left e)]
theorem zend_1 {ad ot : Nat → Nat} {c a no : Nat} (h1 : ad c < no) (h2 : ot c < no) (hn : no ≤ 8) : zend ad ot c a = -1 ↔ ¬ (a = ad c ∨ a = ot c) := by
  constructor
  · intro h q
    rw [zend_t q] at h
    refine absurd h (nI_ne_m1 ?_)
    unfold zoe; split <;> omega
  · intro h
    unfold zend
    rw [if_neg (fun q => h (Or.inl q)), if_neg (fun q => h (Or.inr q))]
def zfv (σ : zIn) (d : Nat → Nat) : Prop := ∀ v, v < 8 → σ 57 v = nI (d v) ∧ d v ≤ 1000000
theorem zfv_lo {σ : zIn} {d : Nat → Nat} {a b w v9 : Nat} (h : zfv σ d) (ha : a < 8) (hv : v9 = zlo d a b w a) : zfv (z_up σ 57 a (nI v9)) (zlo d a b w) := by
  intro v hv8
  have h1 := h v hv8
  have h3 := h a ha
  by_cases e : v = a
  · subst e
    rw [z_up_app, if_pos rfl, if_pos rfl]
    exact ⟨by rw [hv], Nat.le_trans zlo_le h3.2⟩
  · rw [z_up_app, if_pos rfl, if_neg e, zlo_ne e]; exact h1
/-- what a cable costs the reference: broken ones too much -/
def zby (rt : Nat → Nat) (br : Nat → Bool) (c : Nat) : Nat := if br c then 1000000 else rt c * 16 + 1
theorem zby_r1 {ad ot rt : Nat → Nat} {br : Nat → Bool} {d : Nat → Nat} {c : Nat} (hd : d (ad c) ≤ 1000000 ∧ d (ot c) ≤ 1000000) : zlo (zlo d (ad c) (ot c) (zby rt br c)) (ot c) (ad c) (zby rt br c) = zr1 ad ot rt br d c := by
  unfold zby zr1
  cases br c
  · rw [if_neg (by decide), if_neg (by decide)]
  · rw [if_pos rfl, if_pos rfl, zlo_no (d := d) (by omega), zlo_no (by omega)]
set_option maxHeartbeats 4000000 in
set_option maxRecDepth 100000 in
theorem tX9_end {l : Launch} {D : va_G} {cy : Nat → ClassId} {z0 : Nat} {g : zSh} {σ : zIn} {nc no : Nat} {ad ot rt sp : Nat → Nat} {br : Nat → Bool} (c9 a9 : Nat) (hS : zS g) (hn12 : nc ≤ 12) (hn8 : no ≤ 8) (hCR : zCR σ nc no ad ot rt sp br) (hc : c9 < nc) (ha : a9 < 100) : z_Ct l D cy z0 MX9_end [.ref (g.2.1 21), .int (nI c9), .int (nI a9)] g σ (zI (zend ad ot c9 a9) g σ) := by
  obtain ⟨h1, h2, h3, h4, h5, h6, h7, h8, h9, h10, h11, h12⟩ := hCR c9 hc
  refine z_ofM (by decide) (z_cr (z_ci (z_ci z_c0))) (Nat.le_of_ble_eq_true rfl) ?_
  intro p e s m args below meth c X
  refine z_aload_n X dX9_end_0 rfl ?_
  refine z_getr2 X fX9_32 (zso_21 hS) (zsr_21_11 hS) rfl dX9_end_1 ?_
  refine z_iload_n X dX9_end_4 rfl ?_
  refine z_ialdN X (zsa_29 hS) (by omega) (by omega) dX9_end_5 ?_
  rw [h1]
  refine z_iload_n X dX9_end_6 rfl ?_
  refine z_icmp_ne (tgt := 19) X dX9_end_7 (by decide) (fun c_7 => ?_) (fun c_7 => ?_)
  · skip
    try simp (disch := omega) only [zk0, nI_leI, nI_ltI, nI_eq, zbk_notn, zbk_not, zbk_n0, zbk_0, zb_0, zb_n0, zb_not, zb_notn, Bool.not_eq_false, Bool.not_eq_true, Bool.not_eq_true', Bool.not_eq_false', decide_eq_true_eq, decide_eq_false_iff_not, Classical.not_not] at c_7
    refine z_aload_n X dX9_end_19 rfl ?_
    refine z_getr2 X fX9_35 (zso_21 hS) (zsr_21_12 hS) rfl dX9_end_20 ?_
    refine z_iload_n X dX9_end_23 rfl ?_
    refine z_ialdN X (zsa_30 hS) (by omega) (by omega) dX9_end_24 ?_
    rw [h3]
    refine z_iload_n X dX9_end_25 rfl ?_
    refine z_icmp_ne (tgt := 38) X dX9_end_26 (by decide) (fun c_26 => ?_) (fun c_26 => ?_)
    · skip
      try simp (disch := omega) only [zk0, nI_leI, nI_ltI, nI_eq, zbk_notn, zbk_not, zbk_n0, zbk_0, zb_0, zb_n0, zb_not, zb_notn, Bool.not_eq_false, Bool.not_eq_true, Bool.not_eq_true', Bool.not_eq_false', decide_eq_true_eq, decide_eq_false_iff_not, Classical.not_not] at c_26
      refine z_iconst (v := -1) X (by decide) dX9_end_38 ?_
      refine z_iret X (by decide) (by decide) rfl dX9_end_39 ?_
      unfold zend
      first | exact ⟨by rw [if_pos (by omega)], rfl, rfl⟩ | exact ⟨by rw [if_neg (by omega), if_pos (by omega)], rfl, rfl⟩ | exact ⟨by rw [if_neg (by omega), if_neg (by omega)], rfl, rfl⟩
    · skip
      try simp (disch := omega) only [zk0, nI_leI, nI_ltI, nI_eq, zbk_notn, zbk_not, zbk_n0, zbk_0, zb_0, zb_n0, zb_not, zb_notn, Bool.not_eq_false, Bool.not_eq_true, Bool.not_eq_true', Bool.not_eq_false', decide_eq_true_eq, decide_eq_false_iff_not, Classical.not_not] at c_26
      refine z_aload_n X dX9_end_29 rfl ?_
      refine z_getr2 X fX9_32 (zso_21 hS) (zsr_21_11 hS) rfl dX9_end_30 ?_
      refine z_iload_n X dX9_end_33 rfl ?_
      refine z_ialdN X (zsa_29 hS) (by omega) (by omega) dX9_end_34 ?_
      rw [h1]
      refine z_goto (tgt := 39) X dX9_end_35 (by decide) ?_
      refine z_iret X (by decide) (by decide) rfl dX9_end_39 ?_
      unfold zend
      first | exact ⟨by rw [if_pos (by omega)], rfl, rfl⟩ | exact ⟨by rw [if_neg (by omega), if_pos (by omega)], rfl, rfl⟩ | exact ⟨by rw [if_neg (by omega), if_neg (by omega)], rfl, rfl⟩
  · skip
    try simp (disch := omega) only [zk0, nI_leI, nI_ltI, nI_eq, zbk_notn, zbk_not, zbk_n0, zbk_0, zb_0, zb_n0, zb_not, zb_notn, Bool.not_eq_false, Bool.not_eq_true, Bool.not_eq_true', Bool.not_eq_false', decide_eq_true_eq, decide_eq_false_iff_not, Classical.not_not] at c_7
    refine z_aload_n X dX9_end_10 rfl ?_
    refine z_getr2 X fX9_35 (zso_21 hS) (zsr_21_12 hS) rfl dX9_end_11 ?_
    refine z_iload_n X dX9_end_14 rfl ?_
    refine z_ialdN X (zsa_30 hS) (by omega) (by omega) dX9_end_15 ?_
    rw [h3]
    refine z_goto (tgt := 39) X dX9_end_16 (by decide) ?_
    refine z_iret X (by decide) (by decide) rfl dX9_end_39 ?_
    unfold zend
    first | exact ⟨by rw [if_pos (by omega)], rfl, rfl⟩ | exact ⟨by rw [if_neg (by omega), if_pos (by omega)], rfl, rfl⟩ | exact ⟨by rw [if_neg (by omega), if_neg (by omega)], rfl, rfl⟩

set_option maxHeartbeats 4000000 in
set_option maxRecDepth 100000 in
theorem tX9_reaches {l : Launch} {D : va_G} {cy : Nat → ClassId} {z0 : Nat} {g : zSh} {σ : zIn} {nc no : Nat} {ad ot rt sp : Nat → Nat} {br : Nat → Bool} (to : Nat) (hS : zS g) (ht8 : to < 8) (hnc : σ 21 10 = nI nc) (hn12 : nc ≤ 12) (hn8 : no ≤ 8) (hCR : zCR σ nc no ad ot rt sp br) : z_Ct l D cy z0 MX9_reaches [.ref (g.2.1 21), .int (nI to)] g σ (fun v g' σ' => v = none ∧ g' = g ∧ (∀ i, i ≠ 57 → σ' i = σ i) ∧ zfv σ' (zrs ad ot rt br nc (zd0 1000000 to) 8)) := by
  refine z_ofM (by decide) (z_cr (z_ci z_c0)) (Nat.le_of_ble_eq_true rfl) ?_
  intro p e s m args below meth c X
  have loop_2 : ∀ (n : Nat) (k9 : Nat) (v3 v4 v5 v6 : Option Value) (τ : zIn) (hk : k9 ≤ 8) (hF : ∀ i, i ≠ 57 → τ i = σ i) (hfv : ∀ v, v < k9 → τ 57 v = nI ((zd0 1000000 to) v)) (hn : 8 - k9 < n), z_V p l e (zRm MX9_reaches) s m args below meth c 7 D cy z0 0 0 (zQm MX9_reaches below D cy z0 (fun v g' σ' => v = none ∧ g' = g ∧ (∀ i, i ≠ 57 → σ' i = σ i) ∧ zfv σ' (zrs ad ot rt br nc (zd0 1000000 to) 8)) args s) 2 [some (.ref (g.2.1 21)), some (.int (nI to)), some (.int (nI k9)), v3, v4, v5, v6] [] g τ := by
    intro n
    induction n with
    | zero => intro k9 v3 v4 v5 v6 τ hk hF hfv hn; exact absurd hn (Nat.not_lt_zero _)
    | succ n ih_2 =>
      intro k9 v3 v4 v5 v6 τ hk hF hfv hn
      refine z_iload_n X dX9_reaches_2 rfl ?_
      refine z_bipush (v := nI 8) X (by decide) dX9_reaches_3 ?_
      refine z_icmp_ge (tgt := 31) X dX9_reaches_5 (by decide) (fun c_5 => ?_) (fun c_5 => ?_)
      · skip
        try simp (disch := omega) only [zk0, nI_leI, nI_ltI, nI_eq, zbk_notn, zbk_not, zbk_n0, zbk_0, zb_0, zb_n0, zb_not, zb_notn, Bool.not_eq_false, Bool.not_eq_true, Bool.not_eq_true', Bool.not_eq_false', decide_eq_true_eq, decide_eq_false_iff_not, Classical.not_not] at c_5
        have loop_33 : ∀ (n : Nat) (n9 : Nat) (v3 v4 v5 v6 : Option Value) (υ : zIn) (hn8 : n9 ≤ 8) (hF : ∀ i, i ≠ 57 → υ i = σ i) (hfv : zfv υ (zrs ad ot rt br nc (zd0 1000000 to) n9)) (hn : 8 - n9 < n), z_V p l e (zRm MX9_reaches) s m args below meth c 7 D cy z0 0 0 (zQm MX9_reaches below D cy z0 (fun v g' σ' => v = none ∧ g' = g ∧ (∀ i, i ≠ 57 → σ' i = σ i) ∧ zfv σ' (zrs ad ot rt br nc (zd0 1000000 to) 8)) args s) 33 [some (.ref (g.2.1 21)), some (.int (nI to)), some (.int (nI n9)), v3, v4, v5, v6] [] g υ := by
          intro n
          induction n with
          | zero => intro n9 v3 v4 v5 v6 υ hn8 hF hfv hn; exact absurd hn (Nat.not_lt_zero _)
          | succ n ih_33 =>
            intro n9 v3 v4 v5 v6 υ hn8 hF hfv hn
            refine z_iload_n X dX9_reaches_33 rfl ?_
            refine z_bipush (v := nI 8) X (by decide) dX9_reaches_34 ?_
            refine z_icmp_ge (tgt := 198) X dX9_reaches_36 (by decide) (fun c_36 => ?_) (fun c_36 => ?_)
            · skip
              try simp (disch := omega) only [zk0, nI_leI, nI_ltI, nI_eq, zbk_notn, zbk_not, zbk_n0, zbk_0, zb_0, zb_n0, zb_not, zb_notn, Bool.not_eq_false, Bool.not_eq_true, Bool.not_eq_true', Bool.not_eq_false', decide_eq_true_eq, decide_eq_false_iff_not, Classical.not_not] at c_36
              refine z_vret X (by decide) (by decide) rfl dX9_reaches_198 ?_
              have e : 8 = n9 := by omega
              subst e
              exact ⟨rfl, rfl, hF, hfv⟩
            · skip
              try simp (disch := omega) only [zk0, nI_leI, nI_ltI, nI_eq, zbk_notn, zbk_not, zbk_n0, zbk_0, zb_0, zb_n0, zb_not, zb_notn, Bool.not_eq_false, Bool.not_eq_true, Bool.not_eq_true', Bool.not_eq_false', decide_eq_true_eq, decide_eq_false_iff_not, Classical.not_not] at c_36
              have loop_41 : ∀ (n : Nat) (c9 : Nat) (v4 v5 v6 : Option Value) (τ : zIn) (hc : c9 ≤ nc) (hF : ∀ i, i ≠ 57 → τ i = σ i) (hfv : zfv τ (zrd ad ot rt br (zrs ad ot rt br nc (zd0 1000000 to) n9) c9)) (hn : nc - c9 < n), z_V p l e (zRm MX9_reaches) s m args below meth c 7 D cy z0 0 0 (zQm MX9_reaches below D cy z0 (fun v g' σ' => v = none ∧ g' = g ∧ (∀ i, i ≠ 57 → σ' i = σ i) ∧ zfv σ' (zrs ad ot rt br nc (zd0 1000000 to) 8)) args s) 41 [some (.ref (g.2.1 21)), some (.int (nI to)), some (.int (nI n9)), some (.int (nI c9)), v4, v5, v6] [] g τ := by
                intro n
                induction n with
                | zero => intro c9 v4 v5 v6 τ hc hF hfv hn; exact absurd hn (Nat.not_lt_zero _)
                | succ n ih_41 =>
                  intro c9 v4 v5 v6 τ hc hF hfv hn
                  have hncτ : τ 21 10 = nI nc := by rw [hF 21 (by decide)]; exact hnc
                  refine z_iload_n X dX9_reaches_41 rfl ?_
                  refine z_aload_n X dX9_reaches_42 rfl ?_
                  refine z_geti X fX9_136 (zso_21 hS) rfl dX9_reaches_43 ?_
                  rw [hncτ]
                  refine z_icmp_ge (tgt := 192) X dX9_reaches_46 (by decide) (fun c_46 => ?_) (fun c_46 => ?_)
                  · skip
                    try simp (disch := omega) only [zk0, nI_leI, nI_ltI, nI_eq, zbk_notn, zbk_not, zbk_n0, zbk_0, zb_0, zb_n0, zb_not, zb_notn, Bool.not_eq_false, Bool.not_eq_true, Bool.not_eq_true', Bool.not_eq_false', decide_eq_true_eq, decide_eq_false_iff_not, Classical.not_not] at c_46
                    refine z_inc1 X dX9_reaches_192 rfl (by decide) ?_
                    refine z_goto (tgt := 33) X dX9_reaches_195 (by decide) ?_
                    have hcn : nc = c9 := by omega
                    subst hcn
                    exact ih_33 (n9 + 1) _ _ _ _ τ (by omega) hF hfv (by omega)
                  · skip
                    try simp (disch := omega) only [zk0, nI_leI, nI_ltI, nI_eq, zbk_notn, zbk_not, zbk_n0, zbk_0, zb_0, zb_n0, zb_not, zb_notn, Bool.not_eq_false, Bool.not_eq_true, Bool.not_eq_true', Bool.not_eq_false', decide_eq_true_eq, decide_eq_false_iff_not, Classical.not_not] at c_46
                    obtain ⟨h1, h2, h3, h4, h5, h6, h7, h8, h9, h10, h11, h12⟩ := hCR c9 (by omega)
                    have hva := hfv (ad c9) (by omega)
                    have hvo := hfv (ot c9) (by omega)
                    refine z_aload_n X dX9_reaches_49 rfl ?_
                    refine z_getr2 X fX9_32 (zso_21 hS) (zsr_21_11 hS) rfl dX9_reaches_50 ?_
                    refine z_iload_n X dX9_reaches_53 rfl ?_
                    refine z_ialdN X (zsa_29 hS) (by omega) (by omega) dX9_reaches_54 ?_
                    rw [hF 29 (by decide), h1]
                    refine z_istore X dX9_reaches_55 (by decide) ?_
                    refine z_aload_n X dX9_reaches_57 rfl ?_
                    refine z_getr2 X fX9_35 (zso_21 hS) (zsr_21_12 hS) rfl dX9_reaches_58 ?_
                    refine z_iload_n X dX9_reaches_61 rfl ?_
                    refine z_ialdN X (zsa_30 hS) (by omega) (by omega) dX9_reaches_62 ?_
                    rw [hF 30 (by decide), h3]
                    refine z_istore X dX9_reaches_63 (by decide) ?_
                    refine z_aload_n X dX9_reaches_65 rfl ?_
                    refine z_getr2 X fX9_44 (zso_21 hS) (zsr_21_15 hS) rfl dX9_reaches_66 ?_
                    refine z_iload_n X dX9_reaches_69 rfl ?_
                    refine z_zaldN X (zsa_33 hS) (by omega) (by omega) dX9_reaches_70 ?_
                    rw [hF 33 (by decide), h12]
                    refine z_if_eq (tgt := 79) X dX9_reaches_71 (by decide) (fun c_71 => ?_) (fun c_71 => ?_)
                    · skip
                      try simp (disch := omega) only [zb_notn, zb_not, zb_n0, zb_0, Bool.not_eq_false, Bool.not_eq_true, Bool.not_eq_true', Bool.not_eq_false', decide_eq_true_eq, decide_eq_false_iff_not, Classical.not_not] at c_71
                      refine z_bipush (v := nI 16) X (by decide) dX9_reaches_79 ?_
                      refine z_aload_n X dX9_reaches_81 rfl ?_
                      refine z_getr2 X fX9_38 (zso_21 hS) (zsr_21_13 hS) rfl dX9_reaches_82 ?_
                      refine z_iload_n X dX9_reaches_85 rfl ?_
                      refine z_ialdN X (zsa_31 hS) (by omega) (by omega) dX9_reaches_86 ?_
                      rw [hF 31 (by decide), h6]
                      refine z_imulN X dX9_reaches_87 ?_
                      refine z_iconst (v := nI 1) X (by decide) dX9_reaches_88 ?_
                      refine z_iaddN X dX9_reaches_89 ?_
                      have hby : zby rt br c9 ≤ 1000000 := by unfold zby; split <;> omega
                      first
                      | rw [show (1000000 : Int32) = nI (zby rt br c9) from by unfold zby; rw [if_pos c_71]; rfl]
                      | rw [show 16 * rt c9 + 1 = zby rt br c9 from by unfold zby; rw [c_71, if_neg (by decide)]; omega]
                      refine z_istore X dX9_reaches_90 (by decide) ?_
                      refine z_aload_n X dX9_reaches_92 rfl ?_
                      refine z_getr2 X fX9_116 (zso_21 hS) (zsr_21_44 hS) rfl dX9_reaches_93 ?_
                      refine z_iload X dX9_reaches_96 rfl ?_
                      refine z_aload_n X dX9_reaches_98 rfl ?_
                      refine z_getr2 X fX9_116 (zso_21 hS) (zsr_21_44 hS) rfl dX9_reaches_99 ?_
                      refine z_iload X dX9_reaches_102 rfl ?_
                      refine z_ialdN X (zsa_57 hS) (by omega) (by omega) dX9_reaches_104 ?_
                      rw [hvo.1]
                      refine z_iload X dX9_reaches_105 rfl ?_
                      refine z_iaddN X dX9_reaches_107 ?_
                      refine z_aload_n X dX9_reaches_108 rfl ?_
                      refine z_getr2 X fX9_116 (zso_21 hS) (zsr_21_44 hS) rfl dX9_reaches_109 ?_
                      refine z_iload X dX9_reaches_112 rfl ?_
                      refine z_ialdN X (zsa_57 hS) (by omega) (by omega) dX9_reaches_114 ?_
                      rw [hva.1]
                      refine z_icmp_ge (tgt := 131) X dX9_reaches_115 (by decide) (fun c_115 => ?_) (fun c_115 => ?_)
                      · skip
                        try simp (disch := omega) only [zk0, nI_leI, nI_ltI, nI_eq, zbk_notn, zbk_not, zbk_n0, zbk_0, zb_0, zb_n0, zb_not, zb_notn, Bool.not_eq_false, Bool.not_eq_true, Bool.not_eq_true', Bool.not_eq_false', decide_eq_true_eq, decide_eq_false_iff_not, Classical.not_not] at c_115
                        refine z_aload_n X dX9_reaches_131 rfl ?_
                        refine z_getr2 X fX9_116 (zso_21 hS) (zsr_21_44 hS) rfl dX9_reaches_132 ?_
                        refine z_iload X dX9_reaches_135 rfl ?_
                        refine z_ialdN X (zsa_57 hS) (by omega) (by omega) dX9_reaches_137 ?_
                        try rw [hva.1]
                        refine z_iastN X (zsa_57 hS) (by omega) (by omega) dX9_reaches_138 ?_
                        first
                        | (have hfv2 := zfv_lo (a := ad c9) (b := ot c9) (w := zby rt br c9) (v9 := (zrd ad ot rt br (zrs ad ot rt br nc (zd0 1000000 to) n9) c9) (ot c9) + zby rt br c9) hfv (by omega) (by rw [zlo_at (d := (zrd ad ot rt br (zrs ad ot rt br nc (zd0 1000000 to) n9) c9)) (a := ad c9) (b := ot c9)]; omega); generalize hτ2 : z_up τ 57 (ad c9) (nI ((zrd ad ot rt br (zrs ad ot rt br nc (zd0 1000000 to) n9) c9) (ot c9) + zby rt br c9)) = τ2 at hfv2 ⊢)
                        | (have hfv2 := zfv_lo (a := ad c9) (b := ot c9) (w := zby rt br c9) (v9 := (zrd ad ot rt br (zrs ad ot rt br nc (zd0 1000000 to) n9) c9) (ad c9)) hfv (by omega) (by rw [zlo_at (d := (zrd ad ot rt br (zrs ad ot rt br nc (zd0 1000000 to) n9) c9)) (a := ad c9) (b := ot c9)]; omega); generalize hτ2 : z_up τ 57 (ad c9) (nI ((zrd ad ot rt br (zrs ad ot rt br nc (zd0 1000000 to) n9) c9) (ad c9))) = τ2 at hfv2 ⊢)
                        have hF2 : ∀ i, i ≠ 57 → τ2 i = σ i := fun i hi => by rw [← hτ2, z_up_ne hi]; exact hF i hi
                        have hva2 := hfv2 (ad c9) (by omega)
                        have hvo2 := hfv2 (ot c9) (by omega)
                        refine z_aload_n X dX9_reaches_139 rfl ?_
                        refine z_getr2 X fX9_116 (zso_21 hS) (zsr_21_44 hS) rfl dX9_reaches_140 ?_
                        refine z_iload X dX9_reaches_143 rfl ?_
                        refine z_aload_n X dX9_reaches_145 rfl ?_
                        refine z_getr2 X fX9_116 (zso_21 hS) (zsr_21_44 hS) rfl dX9_reaches_146 ?_
                        refine z_iload X dX9_reaches_149 rfl ?_
                        refine z_ialdN X (zsa_57 hS) (by omega) (by omega) dX9_reaches_151 ?_
                        rw [hva2.1]
                        refine z_iload X dX9_reaches_152 rfl ?_
                        refine z_iaddN X dX9_reaches_154 ?_
                        refine z_aload_n X dX9_reaches_155 rfl ?_
                        refine z_getr2 X fX9_116 (zso_21 hS) (zsr_21_44 hS) rfl dX9_reaches_156 ?_
                        refine z_iload X dX9_reaches_159 rfl ?_
                        refine z_ialdN X (zsa_57 hS) (by omega) (by omega) dX9_reaches_161 ?_
                        rw [hvo2.1]
                        refine z_icmp_ge (tgt := 178) X dX9_reaches_162 (by decide) (fun c_162 => ?_) (fun c_162 => ?_)
                        · skip
                          try simp (disch := omega) only [zk0, nI_leI, nI_ltI, nI_eq, zbk_notn, zbk_not, zbk_n0, zbk_0, zb_0, zb_n0, zb_not, zb_notn, Bool.not_eq_false, Bool.not_eq_true, Bool.not_eq_true', Bool.not_eq_false', decide_eq_true_eq, decide_eq_false_iff_not, Classical.not_not] at c_162
                          refine z_aload_n X dX9_reaches_178 rfl ?_
                          refine z_getr2 X fX9_116 (zso_21 hS) (zsr_21_44 hS) rfl dX9_reaches_179 ?_
                          refine z_iload X dX9_reaches_182 rfl ?_
                          refine z_ialdN X (zsa_57 hS) (by omega) (by omega) dX9_reaches_184 ?_
                          try rw [hvo2.1]
                          refine z_iastN X (zsa_57 hS) (by omega) (by omega) dX9_reaches_185 ?_
                          first
                          | (have hfv3 := zfv_lo (a := ot c9) (b := ad c9) (w := zby rt br c9) (v9 := (zlo (zrd ad ot rt br (zrs ad ot rt br nc (zd0 1000000 to) n9) c9) (ad c9) (ot c9) (zby rt br c9)) (ad c9) + zby rt br c9) hfv2 (by omega) (by rw [zlo_at (d := (zlo (zrd ad ot rt br (zrs ad ot rt br nc (zd0 1000000 to) n9) c9) (ad c9) (ot c9) (zby rt br c9))) (a := ot c9) (b := ad c9)]; omega); generalize hτ3 : z_up τ2 57 (ot c9) (nI ((zlo (zrd ad ot rt br (zrs ad ot rt br nc (zd0 1000000 to) n9) c9) (ad c9) (ot c9) (zby rt br c9)) (ad c9) + zby rt br c9)) = τ3 at hfv3 ⊢)
                          | (have hfv3 := zfv_lo (a := ot c9) (b := ad c9) (w := zby rt br c9) (v9 := (zlo (zrd ad ot rt br (zrs ad ot rt br nc (zd0 1000000 to) n9) c9) (ad c9) (ot c9) (zby rt br c9)) (ot c9)) hfv2 (by omega) (by rw [zlo_at (d := (zlo (zrd ad ot rt br (zrs ad ot rt br nc (zd0 1000000 to) n9) c9) (ad c9) (ot c9) (zby rt br c9))) (a := ot c9) (b := ad c9)]; omega); generalize hτ3 : z_up τ2 57 (ot c9) (nI ((zlo (zrd ad ot rt br (zrs ad ot rt br nc (zd0 1000000 to) n9) c9) (ad c9) (ot c9) (zby rt br c9)) (ot c9))) = τ3 at hfv3 ⊢)
                          have hF3 : ∀ i, i ≠ 57 → τ3 i = σ i := fun i hi => by rw [← hτ3, z_up_ne hi]; exact hF2 i hi
                          refine z_inc1 X dX9_reaches_186 rfl (by decide) ?_
                          refine z_goto (tgt := 41) X dX9_reaches_189 (by decide) ?_
                          have e5 : zlo (zlo (zrd ad ot rt br (zrs ad ot rt br nc (zd0 1000000 to) n9) c9) (ad c9) (ot c9) (zby rt br c9)) (ot c9) (ad c9) (zby rt br c9) = zrd ad ot rt br (zrs ad ot rt br nc (zd0 1000000 to) n9) (c9 + 1) := zby_r1 ⟨(hfv _ (by omega)).2, (hfv _ (by omega)).2⟩
                          rw [e5] at hfv3
                          exact ih_41 (c9 + 1) _ _ _ τ3 (by omega) hF3 hfv3 (by omega)
                        · skip
                          try simp (disch := omega) only [zk0, nI_leI, nI_ltI, nI_eq, zbk_notn, zbk_not, zbk_n0, zbk_0, zb_0, zb_n0, zb_not, zb_notn, Bool.not_eq_false, Bool.not_eq_true, Bool.not_eq_true', Bool.not_eq_false', decide_eq_true_eq, decide_eq_false_iff_not, Classical.not_not] at c_162
                          refine z_aload_n X dX9_reaches_165 rfl ?_
                          refine z_getr2 X fX9_116 (zso_21 hS) (zsr_21_44 hS) rfl dX9_reaches_166 ?_
                          refine z_iload X dX9_reaches_169 rfl ?_
                          refine z_ialdN X (zsa_57 hS) (by omega) (by omega) dX9_reaches_171 ?_
                          rw [hva2.1]
                          refine z_iload X dX9_reaches_172 rfl ?_
                          refine z_iaddN X dX9_reaches_174 ?_
                          refine z_goto (tgt := 185) X dX9_reaches_175 (by decide) ?_
                          try rw [hvo2.1]
                          refine z_iastN X (zsa_57 hS) (by omega) (by omega) dX9_reaches_185 ?_
                          first
                          | (have hfv3 := zfv_lo (a := ot c9) (b := ad c9) (w := zby rt br c9) (v9 := (zlo (zrd ad ot rt br (zrs ad ot rt br nc (zd0 1000000 to) n9) c9) (ad c9) (ot c9) (zby rt br c9)) (ad c9) + zby rt br c9) hfv2 (by omega) (by rw [zlo_at (d := (zlo (zrd ad ot rt br (zrs ad ot rt br nc (zd0 1000000 to) n9) c9) (ad c9) (ot c9) (zby rt br c9))) (a := ot c9) (b := ad c9)]; omega); generalize hτ3 : z_up τ2 57 (ot c9) (nI ((zlo (zrd ad ot rt br (zrs ad ot rt br nc (zd0 1000000 to) n9) c9) (ad c9) (ot c9) (zby rt br c9)) (ad c9) + zby rt br c9)) = τ3 at hfv3 ⊢)
                          | (have hfv3 := zfv_lo (a := ot c9) (b := ad c9) (w := zby rt br c9) (v9 := (zlo (zrd ad ot rt br (zrs ad ot rt br nc (zd0 1000000 to) n9) c9) (ad c9) (ot c9) (zby rt br c9)) (ot c9)) hfv2 (by omega) (by rw [zlo_at (d := (zlo (zrd ad ot rt br (zrs ad ot rt br nc (zd0 1000000 to) n9) c9) (ad c9) (ot c9) (zby rt br c9))) (a := ot c9) (b := ad c9)]; omega); generalize hτ3 : z_up τ2 57 (ot c9) (nI ((zlo (zrd ad ot rt br (zrs ad ot rt br nc (zd0 1000000 to) n9) c9) (ad c9) (ot c9) (zby rt br c9)) (ot c9))) = τ3 at hfv3 ⊢)
                          have hF3 : ∀ i, i ≠ 57 → τ3 i = σ i := fun i hi => by rw [← hτ3, z_up_ne hi]; exact hF2 i hi
                          refine z_inc1 X dX9_reaches_186 rfl (by decide) ?_
                          refine z_goto (tgt := 41) X dX9_reaches_189 (by decide) ?_
                          have e5 : zlo (zlo (zrd ad ot rt br (zrs ad ot rt br nc (zd0 1000000 to) n9) c9) (ad c9) (ot c9) (zby rt br c9)) (ot c9) (ad c9) (zby rt br c9) = zrd ad ot rt br (zrs ad ot rt br nc (zd0 1000000 to) n9) (c9 + 1) := zby_r1 ⟨(hfv _ (by omega)).2, (hfv _ (by omega)).2⟩
                          rw [e5] at hfv3
                          exact ih_41 (c9 + 1) _ _ _ τ3 (by omega) hF3 hfv3 (by omega)
                      · skip
                        try simp (disch := omega) only [zk0, nI_leI, nI_ltI, nI_eq, zbk_notn, zbk_not, zbk_n0, zbk_0, zb_0, zb_n0, zb_not, zb_notn, Bool.not_eq_false, Bool.not_eq_true, Bool.not_eq_true', Bool.not_eq_false', decide_eq_true_eq, decide_eq_false_iff_not, Classical.not_not] at c_115
                        refine z_aload_n X dX9_reaches_118 rfl ?_
                        refine z_getr2 X fX9_116 (zso_21 hS) (zsr_21_44 hS) rfl dX9_reaches_119 ?_
                        refine z_iload X dX9_reaches_122 rfl ?_
                        refine z_ialdN X (zsa_57 hS) (by omega) (by omega) dX9_reaches_124 ?_
                        rw [hvo.1]
                        refine z_iload X dX9_reaches_125 rfl ?_
                        refine z_iaddN X dX9_reaches_127 ?_
                        refine z_goto (tgt := 138) X dX9_reaches_128 (by decide) ?_
                        try rw [hva.1]
                        refine z_iastN X (zsa_57 hS) (by omega) (by omega) dX9_reaches_138 ?_
                        first
                        | (have hfv2 := zfv_lo (a := ad c9) (b := ot c9) (w := zby rt br c9) (v9 := (zrd ad ot rt br (zrs ad ot rt br nc (zd0 1000000 to) n9) c9) (ot c9) + zby rt br c9) hfv (by omega) (by rw [zlo_at (d := (zrd ad ot rt br (zrs ad ot rt br nc (zd0 1000000 to) n9) c9)) (a := ad c9) (b := ot c9)]; omega); generalize hτ2 : z_up τ 57 (ad c9) (nI ((zrd ad ot rt br (zrs ad ot rt br nc (zd0 1000000 to) n9) c9) (ot c9) + zby rt br c9)) = τ2 at hfv2 ⊢)
                        | (have hfv2 := zfv_lo (a := ad c9) (b := ot c9) (w := zby rt br c9) (v9 := (zrd ad ot rt br (zrs ad ot rt br nc (zd0 1000000 to) n9) c9) (ad c9)) hfv (by omega) (by rw [zlo_at (d := (zrd ad ot rt br (zrs ad ot rt br nc (zd0 1000000 to) n9) c9)) (a := ad c9) (b := ot c9)]; omega); generalize hτ2 : z_up τ 57 (ad c9) (nI ((zrd ad ot rt br (zrs ad ot rt br nc (zd0 1000000 to) n9) c9) (ad c9))) = τ2 at hfv2 ⊢)
                        have hF2 : ∀ i, i ≠ 57 → τ2 i = σ i := fun i hi => by rw [← hτ2, z_up_ne hi]; exact hF i hi
                        have hva2 := hfv2 (ad c9) (by omega)
                        have hvo2 := hfv2 (ot c9) (by omega)
                        refine z_aload_n X dX9_reaches_139 rfl ?_
                        refine z_getr2 X fX9_116 (zso_21 hS) (zsr_21_44 hS) rfl dX9_reaches_140 ?_
                        refine z_iload X dX9_reaches_143 rfl ?_
                        refine z_aload_n X dX9_reaches_145 rfl ?_
                        refine z_getr2 X fX9_116 (zso_21 hS) (zsr_21_44 hS) rfl dX9_reaches_146 ?_
                        refine z_iload X dX9_reaches_149 rfl ?_
                        refine z_ialdN X (zsa_57 hS) (by omega) (by omega) dX9_reaches_151 ?_
                        rw [hva2.1]
                        refine z_iload X dX9_reaches_152 rfl ?_
                        refine z_iaddN X dX9_reaches_154 ?_
                        refine z_aload_n X dX9_reaches_155 rfl ?_
                        refine z_getr2 X fX9_116 (zso_21 hS) (zsr_21_44 hS) rfl dX9_reaches_156 ?_
                        refine z_iload X dX9_reaches_159 rfl ?_
                        refine z_ialdN X (zsa_57 hS) (by omega) (by omega) dX9_reaches_161 ?_
                        rw [hvo2.1]
                        refine z_icmp_ge (tgt := 178) X dX9_reaches_162 (by decide) (fun c_162 => ?_) (fun c_162 => ?_)
                        · skip
                          try simp (disch := omega) only [zk0, nI_leI, nI_ltI, nI_eq, zbk_notn, zbk_not, zbk_n0, zbk_0, zb_0, zb_n0, zb_not, zb_notn, Bool.not_eq_false, Bool.not_eq_true, Bool.not_eq_true', Bool.not_eq_false', decide_eq_true_eq, decide_eq_false_iff_not, Classical.not_not] at c_162
                          refine z_aload_n X dX9_reaches_178 rfl ?_
                          refine z_getr2 X fX9_116 (zso_21 hS) (zsr_21_44 hS) rfl dX9_reaches_179 ?_
                          refine z_iload X dX9_reaches_182 rfl ?_
                          refine z_ialdN X (zsa_57 hS) (by omega) (by omega) dX9_reaches_184 ?_
                          try rw [hvo2.1]
                          refine z_iastN X (zsa_57 hS) (by omega) (by omega) dX9_reaches_185 ?_
                          first
                          | (have hfv3 := zfv_lo (a := ot c9) (b := ad c9) (w := zby rt br c9) (v9 := (zlo (zrd ad ot rt br (zrs ad ot rt br nc (zd0 1000000 to) n9) c9) (ad c9) (ot c9) (zby rt br c9)) (ad c9) + zby rt br c9) hfv2 (by omega) (by rw [zlo_at (d := (zlo (zrd ad ot rt br (zrs ad ot rt br nc (zd0 1000000 to) n9) c9) (ad c9) (ot c9) (zby rt br c9))) (a := ot c9) (b := ad c9)]; omega); generalize hτ3 : z_up τ2 57 (ot c9) (nI ((zlo (zrd ad ot rt br (zrs ad ot rt br nc (zd0 1000000 to) n9) c9) (ad c9) (ot c9) (zby rt br c9)) (ad c9) + zby rt br c9)) = τ3 at hfv3 ⊢)
                          | (have hfv3 := zfv_lo (a := ot c9) (b := ad c9) (w := zby rt br c9) (v9 := (zlo (zrd ad ot rt br (zrs ad ot rt br nc (zd0 1000000 to) n9) c9) (ad c9) (ot c9) (zby rt br c9)) (ot c9)) hfv2 (by omega) (by rw [zlo_at (d := (zlo (zrd ad ot rt br (zrs ad ot rt br nc (zd0 1000000 to) n9) c9) (ad c9) (ot c9) (zby rt br c9))) (a := ot c9) (b := ad c9)]; omega); generalize hτ3 : z_up τ2 57 (ot c9) (nI ((zlo (zrd ad ot rt br (zrs ad ot rt br nc (zd0 1000000 to) n9) c9) (ad c9) (ot c9) (zby rt br c9)) (ot c9))) = τ3 at hfv3 ⊢)
                          have hF3 : ∀ i, i ≠ 57 → τ3 i = σ i := fun i hi => by rw [← hτ3, z_up_ne hi]; exact hF2 i hi
                          refine z_inc1 X dX9_reaches_186 rfl (by decide) ?_
                          refine z_goto (tgt := 41) X dX9_reaches_189 (by decide) ?_
                          have e5 : zlo (zlo (zrd ad ot rt br (zrs ad ot rt br nc (zd0 1000000 to) n9) c9) (ad c9) (ot c9) (zby rt br c9)) (ot c9) (ad c9) (zby rt br c9) = zrd ad ot rt br (zrs ad ot rt br nc (zd0 1000000 to) n9) (c9 + 1) := zby_r1 ⟨(hfv _ (by omega)).2, (hfv _ (by omega)).2⟩
                          rw [e5] at hfv3
                          exact ih_41 (c9 + 1) _ _ _ τ3 (by omega) hF3 hfv3 (by omega)
                        · skip
                          try simp (disch := omega) only [zk0, nI_leI, nI_ltI, nI_eq, zbk_notn, zbk_not, zbk_n0, zbk_0, zb_0, zb_n0, zb_not, zb_notn, Bool.not_eq_false, Bool.not_eq_true, Bool.not_eq_true', Bool.not_eq_false', decide_eq_true_eq, decide_eq_false_iff_not, Classical.not_not] at c_162
                          refine z_aload_n X dX9_reaches_165 rfl ?_
                          refine z_getr2 X fX9_116 (zso_21 hS) (zsr_21_44 hS) rfl dX9_reaches_166 ?_
                          refine z_iload X dX9_reaches_169 rfl ?_
                          refine z_ialdN X (zsa_57 hS) (by omega) (by omega) dX9_reaches_171 ?_
                          rw [hva2.1]
                          refine z_iload X dX9_reaches_172 rfl ?_
                          refine z_iaddN X dX9_reaches_174 ?_
                          refine z_goto (tgt := 185) X dX9_reaches_175 (by decide) ?_
                          try rw [hvo2.1]
                          refine z_iastN X (zsa_57 hS) (by omega) (by omega) dX9_reaches_185 ?_
                          first
                          | (have hfv3 := zfv_lo (a := ot c9) (b := ad c9) (w := zby rt br c9) (v9 := (zlo (zrd ad ot rt br (zrs ad ot rt br nc (zd0 1000000 to) n9) c9) (ad c9) (ot c9) (zby rt br c9)) (ad c9) + zby rt br c9) hfv2 (by omega) (by rw [zlo_at (d := (zlo (zrd ad ot rt br (zrs ad ot rt br nc (zd0 1000000 to) n9) c9) (ad c9) (ot c9) (zby rt br c9))) (a := ot c9) (b := ad c9)]; omega); generalize hτ3 : z_up τ2 57 (ot c9) (nI ((zlo (zrd ad ot rt br (zrs ad ot rt br nc (zd0 1000000 to) n9) c9) (ad c9) (ot c9) (zby rt br c9)) (ad c9) + zby rt br c9)) = τ3 at hfv3 ⊢)
                          | (have hfv3 := zfv_lo (a := ot c9) (b := ad c9) (w := zby rt br c9) (v9 := (zlo (zrd ad ot rt br (zrs ad ot rt br nc (zd0 1000000 to) n9) c9) (ad c9) (ot c9) (zby rt br c9)) (ot c9)) hfv2 (by omega) (by rw [zlo_at (d := (zlo (zrd ad ot rt br (zrs ad ot rt br nc (zd0 1000000 to) n9) c9) (ad c9) (ot c9) (zby rt br c9))) (a := ot c9) (b := ad c9)]; omega); generalize hτ3 : z_up τ2 57 (ot c9) (nI ((zlo (zrd ad ot rt br (zrs ad ot rt br nc (zd0 1000000 to) n9) c9) (ad c9) (ot c9) (zby rt br c9)) (ot c9))) = τ3 at hfv3 ⊢)
                          have hF3 : ∀ i, i ≠ 57 → τ3 i = σ i := fun i hi => by rw [← hτ3, z_up_ne hi]; exact hF2 i hi
                          refine z_inc1 X dX9_reaches_186 rfl (by decide) ?_
                          refine z_goto (tgt := 41) X dX9_reaches_189 (by decide) ?_
                          have e5 : zlo (zlo (zrd ad ot rt br (zrs ad ot rt br nc (zd0 1000000 to) n9) c9) (ad c9) (ot c9) (zby rt br c9)) (ot c9) (ad c9) (zby rt br c9) = zrd ad ot rt br (zrs ad ot rt br nc (zd0 1000000 to) n9) (c9 + 1) := zby_r1 ⟨(hfv _ (by omega)).2, (hfv _ (by omega)).2⟩
                          rw [e5] at hfv3
                          exact ih_41 (c9 + 1) _ _ _ τ3 (by omega) hF3 hfv3 (by omega)
                    · skip
                      try simp (disch := omega) only [zb_notn, zb_not, zb_n0, zb_0, Bool.not_eq_false, Bool.not_eq_true, Bool.not_eq_true', Bool.not_eq_false', decide_eq_true_eq, decide_eq_false_iff_not, Classical.not_not] at c_71
                      refine z_ldc X qX9_217 dX9_reaches_74 ?_
                      refine z_goto (tgt := 90) X dX9_reaches_76 (by decide) ?_
                      have hby : zby rt br c9 ≤ 1000000 := by unfold zby; split <;> omega
                      first
                      | rw [show (1000000 : Int32) = nI (zby rt br c9) from by unfold zby; rw [if_pos c_71]; rfl]
                      | rw [show 16 * rt c9 + 1 = zby rt br c9 from by unfold zby; rw [c_71, if_neg (by decide)]; omega]
                      refine z_istore X dX9_reaches_90 (by decide) ?_
                      refine z_aload_n X dX9_reaches_92 rfl ?_
                      refine z_getr2 X fX9_116 (zso_21 hS) (zsr_21_44 hS) rfl dX9_reaches_93 ?_
                      refine z_iload X dX9_reaches_96 rfl ?_
                      refine z_aload_n X dX9_reaches_98 rfl ?_
                      refine z_getr2 X fX9_116 (zso_21 hS) (zsr_21_44 hS) rfl dX9_reaches_99 ?_
                      refine z_iload X dX9_reaches_102 rfl ?_
                      refine z_ialdN X (zsa_57 hS) (by omega) (by omega) dX9_reaches_104 ?_
                      rw [hvo.1]
                      refine z_iload X dX9_reaches_105 rfl ?_
                      refine z_iaddN X dX9_reaches_107 ?_
                      refine z_aload_n X dX9_reaches_108 rfl ?_
                      refine z_getr2 X fX9_116 (zso_21 hS) (zsr_21_44 hS) rfl dX9_reaches_109 ?_
                      refine z_iload X dX9_reaches_112 rfl ?_
                      refine z_ialdN X (zsa_57 hS) (by omega) (by omega) dX9_reaches_114 ?_
                      rw [hva.1]
                      refine z_icmp_ge (tgt := 131) X dX9_reaches_115 (by decide) (fun c_115 => ?_) (fun c_115 => ?_)
                      · skip
                        try simp (disch := omega) only [zk0, nI_leI, nI_ltI, nI_eq, zbk_notn, zbk_not, zbk_n0, zbk_0, zb_0, zb_n0, zb_not, zb_notn, Bool.not_eq_false, Bool.not_eq_true, Bool.not_eq_true', Bool.not_eq_false', decide_eq_true_eq, decide_eq_false_iff_not, Classical.not_not] at c_115
                        refine z_aload_n X dX9_reaches_131 rfl ?_
                        refine z_getr2 X fX9_116 (zso_21 hS) (zsr_21_44 hS) rfl dX9_reaches_132 ?_
                        refine z_iload X dX9_reaches_135 rfl ?_
                        refine z_ialdN X (zsa_57 hS) (by omega) (by omega) dX9_reaches_137 ?_
                        try rw [hva.1]
                        refine z_iastN X (zsa_57 hS) (by omega) (by omega) dX9_reaches_138 ?_
                        first
                        | (have hfv2 := zfv_lo (a := ad c9) (b := ot c9) (w := zby rt br c9) (v9 := (zrd ad ot rt br (zrs ad ot rt br nc (zd0 1000000 to) n9) c9) (ot c9) + zby rt br c9) hfv (by omega) (by rw [zlo_at (d := (zrd ad ot rt br (zrs ad ot rt br nc (zd0 1000000 to) n9) c9)) (a := ad c9) (b := ot c9)]; omega); generalize hτ2 : z_up τ 57 (ad c9) (nI ((zrd ad ot rt br (zrs ad ot rt br nc (zd0 1000000 to) n9) c9) (ot c9) + zby rt br c9)) = τ2 at hfv2 ⊢)
                        | (have hfv2 := zfv_lo (a := ad c9) (b := ot c9) (w := zby rt br c9) (v9 := (zrd ad ot rt br (zrs ad ot rt br nc (zd0 1000000 to) n9) c9) (ad c9)) hfv (by omega) (by rw [zlo_at (d := (zrd ad ot rt br (zrs ad ot rt br nc (zd0 1000000 to) n9) c9)) (a := ad c9) (b := ot c9)]; omega); generalize hτ2 : z_up τ 57 (ad c9) (nI ((zrd ad ot rt br (zrs ad ot rt br nc (zd0 1000000 to) n9) c9) (ad c9))) = τ2 at hfv2 ⊢)
                        have hF2 : ∀ i, i ≠ 57 → τ2 i = σ i := fun i hi => by rw [← hτ2, z_up_ne hi]; exact hF i hi
                        have hva2 := hfv2 (ad c9) (by omega)
                        have hvo2 := hfv2 (ot c9) (by omega)
                        refine z_aload_n X dX9_reaches_139 rfl ?_
                        refine z_getr2 X fX9_116 (zso_21 hS) (zsr_21_44 hS) rfl dX9_reaches_140 ?_
                        refine z_iload X dX9_reaches_143 rfl ?_
                        refine z_aload_n X dX9_reaches_145 rfl ?_
                        refine z_getr2 X fX9_116 (zso_21 hS) (zsr_21_44 hS) rfl dX9_reaches_146 ?_
                        refine z_iload X dX9_reaches_149 rfl ?_
                        refine z_ialdN X (zsa_57 hS) (by omega) (by omega) dX9_reaches_151 ?_
                        rw [hva2.1]
                        refine z_iload X dX9_reaches_152 rfl ?_
                        refine z_iaddN X dX9_reaches_154 ?_
                        refine z_aload_n X dX9_reaches_155 rfl ?_
                        refine z_getr2 X fX9_116 (zso_21 hS) (zsr_21_44 hS) rfl dX9_reaches_156 ?_
                        refine z_iload X dX9_reaches_159 rfl ?_
                        refine z_ialdN X (zsa_57 hS) (by omega) (by omega) dX9_reaches_161 ?_
                        rw [hvo2.1]
                        refine z_icmp_ge (tgt := 178) X dX9_reaches_162 (by decide) (fun c_162 => ?_) (fun c_162 => ?_)
                        · skip
                          try simp (disch := omega) only [zk0, nI_leI, nI_ltI, nI_eq, zbk_notn, zbk_not, zbk_n0, zbk_0, zb_0, zb_n0, zb_not, zb_notn, Bool.not_eq_false, Bool.not_eq_true, Bool.not_eq_true', Bool.not_eq_false', decide_eq_true_eq, decide_eq_false_iff_not, Classical.not_not] at c_162
                          refine z_aload_n X dX9_reaches_178 rfl ?_
                          refine z_getr2 X fX9_116 (zso_21 hS) (zsr_21_44 hS) rfl dX9_reaches_179 ?_
                          refine z_iload X dX9_reaches_182 rfl ?_
                          refine z_ialdN X (zsa_57 hS) (by omega) (by omega) dX9_reaches_184 ?_
                          try rw [hvo2.1]
                          refine z_iastN X (zsa_57 hS) (by omega) (by omega) dX9_reaches_185 ?_
                          first
                          | (have hfv3 := zfv_lo (a := ot c9) (b := ad c9) (w := zby rt br c9) (v9 := (zlo (zrd ad ot rt br (zrs ad ot rt br nc (zd0 1000000 to) n9) c9) (ad c9) (ot c9) (zby rt br c9)) (ad c9) + zby rt br c9) hfv2 (by omega) (by rw [zlo_at (d := (zlo (zrd ad ot rt br (zrs ad ot rt br nc (zd0 1000000 to) n9) c9) (ad c9) (ot c9) (zby rt br c9))) (a := ot c9) (b := ad c9)]; omega); generalize hτ3 : z_up τ2 57 (ot c9) (nI ((zlo (zrd ad ot rt br (zrs ad ot rt br nc (zd0 1000000 to) n9) c9) (ad c9) (ot c9) (zby rt br c9)) (ad c9) + zby rt br c9)) = τ3 at hfv3 ⊢)
                          | (have hfv3 := zfv_lo (a := ot c9) (b := ad c9) (w := zby rt br c9) (v9 := (zlo (zrd ad ot rt br (zrs ad ot rt br nc (zd0 1000000 to) n9) c9) (ad c9) (ot c9) (zby rt br c9)) (ot c9)) hfv2 (by omega) (by rw [zlo_at (d := (zlo (zrd ad ot rt br (zrs ad ot rt br nc (zd0 1000000 to) n9) c9) (ad c9) (ot c9) (zby rt br c9))) (a := ot c9) (b := ad c9)]; omega); generalize hτ3 : z_up τ2 57 (ot c9) (nI ((zlo (zrd ad ot rt br (zrs ad ot rt br nc (zd0 1000000 to) n9) c9) (ad c9) (ot c9) (zby rt br c9)) (ot c9))) = τ3 at hfv3 ⊢)
                          have hF3 : ∀ i, i ≠ 57 → τ3 i = σ i := fun i hi => by rw [← hτ3, z_up_ne hi]; exact hF2 i hi
                          refine z_inc1 X dX9_reaches_186 rfl (by decide) ?_
                          refine z_goto (tgt := 41) X dX9_reaches_189 (by decide) ?_
                          have e5 : zlo (zlo (zrd ad ot rt br (zrs ad ot rt br nc (zd0 1000000 to) n9) c9) (ad c9) (ot c9) (zby rt br c9)) (ot c9) (ad c9) (zby rt br c9) = zrd ad ot rt br (zrs ad ot rt br nc (zd0 1000000 to) n9) (c9 + 1) := zby_r1 ⟨(hfv _ (by omega)).2, (hfv _ (by omega)).2⟩
                          rw [e5] at hfv3
                          exact ih_41 (c9 + 1) _ _ _ τ3 (by omega) hF3 hfv3 (by omega)
                        · skip
                          try simp (disch := omega) only [zk0, nI_leI, nI_ltI, nI_eq, zbk_notn, zbk_not, zbk_n0, zbk_0, zb_0, zb_n0, zb_not, zb_notn, Bool.not_eq_false, Bool.not_eq_true, Bool.not_eq_true', Bool.not_eq_false', decide_eq_true_eq, decide_eq_false_iff_not, Classical.not_not] at c_162
                          refine z_aload_n X dX9_reaches_165 rfl ?_
                          refine z_getr2 X fX9_116 (zso_21 hS) (zsr_21_44 hS) rfl dX9_reaches_166 ?_
                          refine z_iload X dX9_reaches_169 rfl ?_
                          refine z_ialdN X (zsa_57 hS) (by omega) (by omega) dX9_reaches_171 ?_
                          rw [hva2.1]
                          refine z_iload X dX9_reaches_172 rfl ?_
                          refine z_iaddN X dX9_reaches_174 ?_
                          refine z_goto (tgt := 185) X dX9_reaches_175 (by decide) ?_
                          try rw [hvo2.1]
                          refine z_iastN X (zsa_57 hS) (by omega) (by omega) dX9_reaches_185 ?_
                          first
                          | (have hfv3 := zfv_lo (a := ot c9) (b := ad c9) (w := zby rt br c9) (v9 := (zlo (zrd ad ot rt br (zrs ad ot rt br nc (zd0 1000000 to) n9) c9) (ad c9) (ot c9) (zby rt br c9)) (ad c9) + zby rt br c9) hfv2 (by omega) (by rw [zlo_at (d := (zlo (zrd ad ot rt br (zrs ad ot rt br nc (zd0 1000000 to) n9) c9) (ad c9) (ot c9) (zby rt br c9))) (a := ot c9) (b := ad c9)]; omega); generalize hτ3 : z_up τ2 57 (ot c9) (nI ((zlo (zrd ad ot rt br (zrs ad ot rt br nc (zd0 1000000 to) n9) c9) (ad c9) (ot c9) (zby rt br c9)) (ad c9) + zby rt br c9)) = τ3 at hfv3 ⊢)
                          | (have hfv3 := zfv_lo (a := ot c9) (b := ad c9) (w := zby rt br c9) (v9 := (zlo (zrd ad ot rt br (zrs ad ot rt br nc (zd0 1000000 to) n9) c9) (ad c9) (ot c9) (zby rt br c9)) (ot c9)) hfv2 (by omega) (by rw [zlo_at (d := (zlo (zrd ad ot rt br (zrs ad ot rt br nc (zd0 1000000 to) n9) c9) (ad c9) (ot c9) (zby rt br c9))) (a := ot c9) (b := ad c9)]; omega); generalize hτ3 : z_up τ2 57 (ot c9) (nI ((zlo (zrd ad ot rt br (zrs ad ot rt br nc (zd0 1000000 to) n9) c9) (ad c9) (ot c9) (zby rt br c9)) (ot c9))) = τ3 at hfv3 ⊢)
                          have hF3 : ∀ i, i ≠ 57 → τ3 i = σ i := fun i hi => by rw [← hτ3, z_up_ne hi]; exact hF2 i hi
                          refine z_inc1 X dX9_reaches_186 rfl (by decide) ?_
                          refine z_goto (tgt := 41) X dX9_reaches_189 (by decide) ?_
                          have e5 : zlo (zlo (zrd ad ot rt br (zrs ad ot rt br nc (zd0 1000000 to) n9) c9) (ad c9) (ot c9) (zby rt br c9)) (ot c9) (ad c9) (zby rt br c9) = zrd ad ot rt br (zrs ad ot rt br nc (zd0 1000000 to) n9) (c9 + 1) := zby_r1 ⟨(hfv _ (by omega)).2, (hfv _ (by omega)).2⟩
                          rw [e5] at hfv3
                          exact ih_41 (c9 + 1) _ _ _ τ3 (by omega) hF3 hfv3 (by omega)
                      · skip
                        try simp (disch := omega) only [zk0, nI_leI, nI_ltI, nI_eq, zbk_notn, zbk_not, zbk_n0, zbk_0, zb_0, zb_n0, zb_not, zb_notn, Bool.not_eq_false, Bool.not_eq_true, Bool.not_eq_true', Bool.not_eq_false', decide_eq_true_eq, decide_eq_false_iff_not, Classical.not_not] at c_115
                        refine z_aload_n X dX9_reaches_118 rfl ?_
                        refine z_getr2 X fX9_116 (zso_21 hS) (zsr_21_44 hS) rfl dX9_reaches_119 ?_
                        refine z_iload X dX9_reaches_122 rfl ?_
                        refine z_ialdN X (zsa_57 hS) (by omega) (by omega) dX9_reaches_124 ?_
                        rw [hvo.1]
                        refine z_iload X dX9_reaches_125 rfl ?_
                        refine z_iaddN X dX9_reaches_127 ?_
                        refine z_goto (tgt := 138) X dX9_reaches_128 (by decide) ?_
                        try rw [hva.1]
                        refine z_iastN X (zsa_57 hS) (by omega) (by omega) dX9_reaches_138 ?_
                        first
                        | (have hfv2 := zfv_lo (a := ad c9) (b := ot c9) (w := zby rt br c9) (v9 := (zrd ad ot rt br (zrs ad ot rt br nc (zd0 1000000 to) n9) c9) (ot c9) + zby rt br c9) hfv (by omega) (by rw [zlo_at (d := (zrd ad ot rt br (zrs ad ot rt br nc (zd0 1000000 to) n9) c9)) (a := ad c9) (b := ot c9)]; omega); generalize hτ2 : z_up τ 57 (ad c9) (nI ((zrd ad ot rt br (zrs ad ot rt br nc (zd0 1000000 to) n9) c9) (ot c9) + zby rt br c9)) = τ2 at hfv2 ⊢)
                        | (have hfv2 := zfv_lo (a := ad c9) (b := ot c9) (w := zby rt br c9) (v9 := (zrd ad ot rt br (zrs ad ot rt br nc (zd0 1000000 to) n9) c9) (ad c9)) hfv (by omega) (by rw [zlo_at (d := (zrd ad ot rt br (zrs ad ot rt br nc (zd0 1000000 to) n9) c9)) (a := ad c9) (b := ot c9)]; omega); generalize hτ2 : z_up τ 57 (ad c9) (nI ((zrd ad ot rt br (zrs ad ot rt br nc (zd0 1000000 to) n9) c9) (ad c9))) = τ2 at hfv2 ⊢)
                        have hF2 : ∀ i, i ≠ 57 → τ2 i = σ i := fun i hi => by rw [← hτ2, z_up_ne hi]; exact hF i hi
                        have hva2 := hfv2 (ad c9) (by omega)
                        have hvo2 := hfv2 (ot c9) (by omega)
                        refine z_aload_n X dX9_reaches_139 rfl ?_
                        refine z_getr2 X fX9_116 (zso_21 hS) (zsr_21_44 hS) rfl dX9_reaches_140 ?_
                        refine z_iload X dX9_reaches_143 rfl ?_
                        refine z_aload_n X dX9_reaches_145 rfl ?_
                        refine z_getr2 X fX9_116 (zso_21 hS) (zsr_21_44 hS) rfl dX9_reaches_146 ?_
                        refine z_iload X dX9_reaches_149 rfl ?_
                        refine z_ialdN X (zsa_57 hS) (by omega) (by omega) dX9_reaches_151 ?_
                        rw [hva2.1]
                        refine z_iload X dX9_reaches_152 rfl ?_
                        refine z_iaddN X dX9_reaches_154 ?_
                        refine z_aload_n X dX9_reaches_155 rfl ?_
                        refine z_getr2 X fX9_116 (zso_21 hS) (zsr_21_44 hS) rfl dX9_reaches_156 ?_
                        refine z_iload X dX9_reaches_159 rfl ?_
                        refine z_ialdN X (zsa_57 hS) (by omega) (by omega) dX9_reaches_161 ?_
                        rw [hvo2.1]
                        refine z_icmp_ge (tgt := 178) X dX9_reaches_162 (by decide) (fun c_162 => ?_) (fun c_162 => ?_)
                        · skip
                          try simp (disch := omega) only [zk0, nI_leI, nI_ltI, nI_eq, zbk_notn, zbk_not, zbk_n0, zbk_0, zb_0, zb_n0, zb_not, zb_notn, Bool.not_eq_false, Bool.not_eq_true, Bool.not_eq_true', Bool.not_eq_false', decide_eq_true_eq, decide_eq_false_iff_not, Classical.not_not] at c_162
                          refine z_aload_n X dX9_reaches_178 rfl ?_
                          refine z_getr2 X fX9_116 (zso_21 hS) (zsr_21_44 hS) rfl dX9_reaches_179 ?_
                          refine z_iload X dX9_reaches_182 rfl ?_
                          refine z_ialdN X (zsa_57 hS) (by omega) (by omega) dX9_reaches_184 ?_
                          try rw [hvo2.1]
                          refine z_iastN X (zsa_57 hS) (by omega) (by omega) dX9_reaches_185 ?_
                          first
                          | (have hfv3 := zfv_lo (a := ot c9) (b := ad c9) (w := zby rt br c9) (v9 := (zlo (zrd ad ot rt br (zrs ad ot rt br nc (zd0 1000000 to) n9) c9) (ad c9) (ot c9) (zby rt br c9)) (ad c9) + zby rt br c9) hfv2 (by omega) (by rw [zlo_at (d := (zlo (zrd ad ot rt br (zrs ad ot rt br nc (zd0 1000000 to) n9) c9) (ad c9) (ot c9) (zby rt br c9))) (a := ot c9) (b := ad c9)]; omega); generalize hτ3 : z_up τ2 57 (ot c9) (nI ((zlo (zrd ad ot rt br (zrs ad ot rt br nc (zd0 1000000 to) n9) c9) (ad c9) (ot c9) (zby rt br c9)) (ad c9) + zby rt br c9)) = τ3 at hfv3 ⊢)
                          | (have hfv3 := zfv_lo (a := ot c9) (b := ad c9) (w := zby rt br c9) (v9 := (zlo (zrd ad ot rt br (zrs ad ot rt br nc (zd0 1000000 to) n9) c9) (ad c9) (ot c9) (zby rt br c9)) (ot c9)) hfv2 (by omega) (by rw [zlo_at (d := (zlo (zrd ad ot rt br (zrs ad ot rt br nc (zd0 1000000 to) n9) c9) (ad c9) (ot c9) (zby rt br c9))) (a := ot c9) (b := ad c9)]; omega); generalize hτ3 : z_up τ2 57 (ot c9) (nI ((zlo (zrd ad ot rt br (zrs ad ot rt br nc (zd0 1000000 to) n9) c9) (ad c9) (ot c9) (zby rt br c9)) (ot c9))) = τ3 at hfv3 ⊢)
                          have hF3 : ∀ i, i ≠ 57 → τ3 i = σ i := fun i hi => by rw [← hτ3, z_up_ne hi]; exact hF2 i hi
                          refine z_inc1 X dX9_reaches_186 rfl (by decide) ?_
                          refine z_goto (tgt := 41) X dX9_reaches_189 (by decide) ?_
                          have e5 : zlo (zlo (zrd ad ot rt br (zrs ad ot rt br nc (zd0 1000000 to) n9) c9) (ad c9) (ot c9) (zby rt br c9)) (ot c9) (ad c9) (zby rt br c9) = zrd ad ot rt br (zrs ad ot rt br nc (zd0 1000000 to) n9) (c9 + 1) := zby_r1 ⟨(hfv _ (by omega)).2, (hfv _ (by omega)).2⟩
                          rw [e5] at hfv3
                          exact ih_41 (c9 + 1) _ _ _ τ3 (by omega) hF3 hfv3 (by omega)
                        · skip
                          try simp (disch := omega) only [zk0, nI_leI, nI_ltI, nI_eq, zbk_notn, zbk_not, zbk_n0, zbk_0, zb_0, zb_n0, zb_not, zb_notn, Bool.not_eq_false, Bool.not_eq_true, Bool.not_eq_true', Bool.not_eq_false', decide_eq_true_eq, decide_eq_false_iff_not, Classical.not_not] at c_162
                          refine z_aload_n X dX9_reaches_165 rfl ?_
                          refine z_getr2 X fX9_116 (zso_21 hS) (zsr_21_44 hS) rfl dX9_reaches_166 ?_
                          refine z_iload X dX9_reaches_169 rfl ?_
                          refine z_ialdN X (zsa_57 hS) (by omega) (by omega) dX9_reaches_171 ?_
                          rw [hva2.1]
                          refine z_iload X dX9_reaches_172 rfl ?_
                          refine z_iaddN X dX9_reaches_174 ?_
                          refine z_goto (tgt := 185) X dX9_reaches_175 (by decide) ?_
                          try rw [hvo2.1]
                          refine z_iastN X (zsa_57 hS) (by omega) (by omega) dX9_reaches_185 ?_
                          first
                          | (have hfv3 := zfv_lo (a := ot c9) (b := ad c9) (w := zby rt br c9) (v9 := (zlo (zrd ad ot rt br (zrs ad ot rt br nc (zd0 1000000 to) n9) c9) (ad c9) (ot c9) (zby rt br c9)) (ad c9) + zby rt br c9) hfv2 (by omega) (by rw [zlo_at (d := (zlo (zrd ad ot rt br (zrs ad ot rt br nc (zd0 1000000 to) n9) c9) (ad c9) (ot c9) (zby rt br c9))) (a := ot c9) (b := ad c9)]; omega); generalize hτ3 : z_up τ2 57 (ot c9) (nI ((zlo (zrd ad ot rt br (zrs ad ot rt br nc (zd0 1000000 to) n9) c9) (ad c9) (ot c9) (zby rt br c9)) (ad c9) + zby rt br c9)) = τ3 at hfv3 ⊢)
                          | (have hfv3 := zfv_lo (a := ot c9) (b := ad c9) (w := zby rt br c9) (v9 := (zlo (zrd ad ot rt br (zrs ad ot rt br nc (zd0 1000000 to) n9) c9) (ad c9) (ot c9) (zby rt br c9)) (ot c9)) hfv2 (by omega) (by rw [zlo_at (d := (zlo (zrd ad ot rt br (zrs ad ot rt br nc (zd0 1000000 to) n9) c9) (ad c9) (ot c9) (zby rt br c9))) (a := ot c9) (b := ad c9)]; omega); generalize hτ3 : z_up τ2 57 (ot c9) (nI ((zlo (zrd ad ot rt br (zrs ad ot rt br nc (zd0 1000000 to) n9) c9) (ad c9) (ot c9) (zby rt br c9)) (ot c9))) = τ3 at hfv3 ⊢)
                          have hF3 : ∀ i, i ≠ 57 → τ3 i = σ i := fun i hi => by rw [← hτ3, z_up_ne hi]; exact hF2 i hi
                          refine z_inc1 X dX9_reaches_186 rfl (by decide) ?_
                          refine z_goto (tgt := 41) X dX9_reaches_189 (by decide) ?_
                          have e5 : zlo (zlo (zrd ad ot rt br (zrs ad ot rt br nc (zd0 1000000 to) n9) c9) (ad c9) (ot c9) (zby rt br c9)) (ot c9) (ad c9) (zby rt br c9) = zrd ad ot rt br (zrs ad ot rt br nc (zd0 1000000 to) n9) (c9 + 1) := zby_r1 ⟨(hfv _ (by omega)).2, (hfv _ (by omega)).2⟩
                          rw [e5] at hfv3
                          exact ih_41 (c9 + 1) _ _ _ τ3 (by omega) hF3 hfv3 (by omega)
              refine z_iconst (v := nI 0) X (by decide) dX9_reaches_39 ?_
              refine z_istore_n X dX9_reaches_40 (by decide) ?_
              exact loop_41 (nc - 0 + 1) 0 _ _ _ υ (Nat.zero_le _) hF hfv (by omega)
        refine z_iconst (v := nI 0) X (by decide) dX9_reaches_31 ?_
        refine z_istore_n X dX9_reaches_32 (by decide) ?_
        exact loop_33 (8 - 0 + 1) 0 _ _ _ _ τ (Nat.zero_le _) hF (fun v hv => ⟨hfv v (by omega), zd0_le⟩) (by omega)
      · skip
        try simp (disch := omega) only [zk0, nI_leI, nI_ltI, nI_eq, zbk_notn, zbk_not, zbk_n0, zbk_0, zb_0, zb_n0, zb_not, zb_notn, Bool.not_eq_false, Bool.not_eq_true, Bool.not_eq_true', Bool.not_eq_false', decide_eq_true_eq, decide_eq_false_iff_not, Classical.not_not] at c_5
        refine z_aload_n X dX9_reaches_8 rfl ?_
        refine z_getr2 X fX9_116 (zso_21 hS) (zsr_21_44 hS) rfl dX9_reaches_9 ?_
        refine z_iload_n X dX9_reaches_12 rfl ?_
        refine z_iload_n X dX9_reaches_13 rfl ?_
        refine z_iload_n X dX9_reaches_14 rfl ?_
        refine z_icmp_ne (tgt := 22) X dX9_reaches_15 (by decide) (fun c_15 => ?_) (fun c_15 => ?_)
        · skip
          try simp (disch := omega) only [zk0, nI_leI, nI_ltI, nI_eq, zbk_notn, zbk_not, zbk_n0, zbk_0, zb_0, zb_n0, zb_not, zb_notn, Bool.not_eq_false, Bool.not_eq_true, Bool.not_eq_true', Bool.not_eq_false', decide_eq_true_eq, decide_eq_false_iff_not, Classical.not_not] at c_15
          refine z_ldc X qX9_217 dX9_reaches_22 ?_
          try rw [zkM]
          refine z_iastN X (zsa_57 hS) (by omega) (by omega) dX9_reaches_24 ?_
          refine z_inc1 X dX9_reaches_25 rfl (by decide) ?_
          refine z_goto (tgt := 2) X dX9_reaches_28 (by decide) ?_
          refine ih_2 (k9 + 1) _ _ _ _ _ (by omega) (fun i hi => by rw [z_up_ne hi]; exact hF i hi) (fun v hv => ?_) (by omega)
          rw [z_up_app, if_pos rfl]
          by_cases e : v = k9
          · subst e; rw [if_pos rfl]
            first
            | rw [show zd0 1000000 to v = 0 from if_pos c_15]
            | rw [show zd0 1000000 to v = 1000000 from if_neg c_15]
          · rw [if_neg e]; exact hfv v (by omega)
        · skip
          try simp (disch := omega) only [zk0, nI_leI, nI_ltI, nI_eq, zbk_notn, zbk_not, zbk_n0, zbk_0, zb_0, zb_n0, zb_not, zb_notn, Bool.not_eq_false, Bool.not_eq_true, Bool.not_eq_true', Bool.not_eq_false', decide_eq_true_eq, decide_eq_false_iff_not, Classical.not_not] at c_15
          refine z_iconst (v := nI 0) X (by decide) dX9_reaches_18 ?_
          refine z_goto (tgt := 24) X dX9_reaches_19 (by decide) ?_
          try rw [zkM]
          refine z_iastN X (zsa_57 hS) (by omega) (by omega) dX9_reaches_24 ?_
          refine z_inc1 X dX9_reaches_25 rfl (by decide) ?_
          refine z_goto (tgt := 2) X dX9_reaches_28 (by decide) ?_
          refine ih_2 (k9 + 1) _ _ _ _ _ (by omega) (fun i hi => by rw [z_up_ne hi]; exact hF i hi) (fun v hv => ?_) (by omega)
          rw [z_up_app, if_pos rfl]
          by_cases e : v = k9
          · subst e; rw [if_pos rfl]
            first
            | rw [show zd0 1000000 to v = 0 from if_pos c_15]
            | rw [show zd0 1000000 to v = 1000000 from if_neg c_15]
          · rw [if_neg e]; exact hfv v (by omega)
  refine z_iconst (v := nI 0) X (by decide) dX9_reaches_0 ?_
  refine z_istore_n X dX9_reaches_1 (by decide) ?_
  exact loop_2 (8 - 0 + 1) 0 _ _ _ _ σ (Nat.zero_le _) (fun _ _ => rfl) (fun v hv => absurd hv (Nat.not_lt_zero _)) (by omega)
