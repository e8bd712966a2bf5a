/-! contracts of the reference: entries, offices, cables, rules, draft -/
def zmay (Ph C : Nat → Int32) (ne : Nat) (w a b c d : Int32) (k : Nat) : Prop := ne < 40 ∧ ∀ j, j < k → ¬ (Ph (4 * j) = a ∧ Ph (4 * j + 1) = b ∧ Ph (4 * j + 2) = c ∧ Ph (4 * j + 3) = d) ∧ 1 < zp (C j) w
theorem zmay_t {σ τ ρ : zIn} {ne : Nat} {w a b c d : Int32} (e4 : σ 23 = ρ 4) (e5 : σ 24 = ρ 5) (eτ : ∀ i, i ≠ 21 → τ i = σ i) (h : zmay (τ 24) (τ 23) ne w a b c d ne) : ¬ (zsame ρ ne a b c d ∨ znear ρ ne w ∨ ne = 40) := by
  rw [eτ 23 (by decide), eτ 24 (by decide), e4, e5] at h
  intro q
  rcases q with ⟨k, hk, q⟩ | ⟨k, hk, q⟩ | q
  · exact (h.2 k hk).1 q
  · have := (h.2 k hk).2
    rw [zp_comm] at this; omega
  · have := h.1; omega
theorem zmay_f {σ τ ρ : zIn} {ne : Nat} {w a b c d : Int32} (e4 : σ 23 = ρ 4) (e5 : σ 24 = ρ 5) (eτ : ∀ i, i ≠ 21 → τ i = σ i) (he : ne ≤ 40) (h : ¬ zmay (τ 24) (τ 23) ne w a b c d ne) : zsame ρ ne a b c d ∨ znear ρ ne w ∨ ne = 40 := by
  rw [eτ 23 (by decide), eτ 24 (by decide), e4, e5] at h
  apply Classical.byContradiction
  intro q
  refine h ⟨by have : ne ≠ 40 := fun e => q (Or.inr (Or.inr e)); omega, fun j hj => ⟨fun e => q (Or.inl ⟨j, hj, e⟩), ?_⟩⟩
  have : ¬ zp w (ρ 4 j) < 2 := fun e => q (Or.inr (Or.inl ⟨j, hj, e⟩))
  rw [zp_comm]; omega
set_option maxHeartbeats 4000000 in
set_option maxRecDepth 100000 in
theorem tX9_entry {l : Launch} {D : va_G} {cy : Nat → ClassId} {z0 : Nat} {g : zSh} {σ : zIn} {ni ne : Nat} {ρ : zIn} (w a b c9 d : Int32) (hS : zS g) (hi : σ 21 0 = nI ni) (hi2 : ni ≤ 30) (he : σ 21 2 = nI ne) (he2 : ne ≤ 40) (e4 : σ 23 = ρ 4) (e5 : σ 24 = ρ 5) (hC : ∀ k, k < ne → zwd (σ 23 k)) : z_Ct l D cy z0 MX9_entry [.ref (g.2.1 21), .int w, .int a, .int b, .int c9, .int d] g σ (fun v g' σ' => g' = g ∧ ∃ r, v = some (.int r) ∧ zMP (zx_entry ρ ni ne w a b c9 d) σ σ' (r = nI ne ∧ σ' = z_up (z_up (z_up (z_up (z_up (z_up (z_up σ 21 48 0) 23 ne w) 24 (4 * ne) a) 24 (4 * ne + 1) b) 24 (4 * ne + 2) c9) 24 (4 * ne + 3) d) 21 2 (nI (ne + 1)))) := by
  refine z_ofM (by decide) (z_cr (z_ci (z_ci (z_ci (z_ci (z_ci z_c0)))))) (Nat.le_of_ble_eq_true rfl) ?_
  intro p e s m args below meth c X
  refine z_aload_n X dX9_entry_0 rfl ?_
  refine z_aload_n X dX9_entry_1 rfl ?_
  refine z_iload_n X dX9_entry_2 rfl ?_
  refine z_runV X kX9_158 (tX9_isIdea _ hS hi (by omega)) (zso_21 hS) rfl rfl (Nat.le_of_ble_eq_true rfl) ⟨by decide, by decide⟩ ⟨by decide, by decide⟩ dX9_entry_3 ?_
  rintro _ g1 s1 ⟨rfl, h8, h9⟩
  replace h8 := h8.symm
  subst h8
  replace h9 := h9.symm
  subst h9
  refine z_if_eq (tgt := 39) X dX9_entry_6 (by decide) (fun c_6 => ?_) (fun c_6 => ?_)
  · skip
    try simp (disch := omega) only [zb_notn, zb_not, zb_n0, zb_0, Bool.not_eq_false, Bool.not_eq_true, Bool.not_eq_true', Bool.not_eq_false', decide_eq_true_eq, decide_eq_false_iff_not, Classical.not_not] at c_6
    refine z_iconst (v := nI 0) X (by decide) dX9_entry_39 ?_
    refine z_runV X kX9_150 (tX9_asks false hS) (zso_21 hS) rfl rfl (Nat.le_of_ble_eq_true rfl) ⟨by decide, by decide⟩ ⟨by decide, by decide⟩ dX9_entry_40 ?_
    rintro _ g1 s1 ⟨rfl, h8, h9⟩
    replace h8 := h8.symm
    subst h8
    replace h9 := h9.symm
    subst h9
    refine z_if_ne (tgt := 48) X dX9_entry_43 (by decide) (fun c_43 => ?_) (fun c_43 => ?_)
    · first | exact absurd c_43 (by decide) | exact absurd (by decide) c_43
    · skip
      refine z_iconst (v := 0) X (by decide) dX9_entry_46 ?_
      refine z_iret X (by decide) (by decide) rfl dX9_entry_47 ?_
      exact ⟨rfl, _, rfl, zMP_1 (j := 0) (by unfold zx_entry; rw [if_pos (fun q => by first | exact absurd q.1 (by rw [c_6]; decide) | exact absurd q.2.1 (by unfold zino; rw [c_14]; decide) | exact absurd q.2.2.1 (by unfold zino; rw [c_23]; decide) | exact absurd q.2.2.2 (by unfold zino; rw [c_32]; decide))]) rfl⟩
  · skip
    try simp (disch := omega) only [zb_notn, zb_not, zb_n0, zb_0, Bool.not_eq_false, Bool.not_eq_true, Bool.not_eq_true', Bool.not_eq_false', decide_eq_true_eq, decide_eq_false_iff_not, Classical.not_not] at c_6
    refine z_aload_n X dX9_entry_9 rfl ?_
    refine z_iload_n X dX9_entry_10 rfl ?_
    refine z_runV X kX9_162 (tX9_isIdeaOrNone _ hS hi (by omega)) (zso_21 hS) rfl rfl (Nat.le_of_ble_eq_true rfl) ⟨by decide, by decide⟩ ⟨by decide, by decide⟩ dX9_entry_11 ?_
    rintro _ g1 s1 ⟨rfl, h8, h9⟩
    replace h8 := h8.symm
    subst h8
    replace h9 := h9.symm
    subst h9
    refine z_if_eq (tgt := 39) X dX9_entry_14 (by decide) (fun c_14 => ?_) (fun c_14 => ?_)
    · skip
      try simp (disch := omega) only [zb_notn, zb_not, zb_n0, zb_0, Bool.not_eq_false, Bool.not_eq_true, Bool.not_eq_true', Bool.not_eq_false', decide_eq_true_eq, decide_eq_false_iff_not, Classical.not_not] at c_14
      refine z_iconst (v := nI 0) X (by decide) dX9_entry_39 ?_
      refine z_runV X kX9_150 (tX9_asks false hS) (zso_21 hS) rfl rfl (Nat.le_of_ble_eq_true rfl) ⟨by decide, by decide⟩ ⟨by decide, by decide⟩ dX9_entry_40 ?_
      rintro _ g1 s1 ⟨rfl, h8, h9⟩
      replace h8 := h8.symm
      subst h8
      replace h9 := h9.symm
      subst h9
      refine z_if_ne (tgt := 48) X dX9_entry_43 (by decide) (fun c_43 => ?_) (fun c_43 => ?_)
      · first | exact absurd c_43 (by decide) | exact absurd (by decide) c_43
      · skip
        refine z_iconst (v := 0) X (by decide) dX9_entry_46 ?_
        refine z_iret X (by decide) (by decide) rfl dX9_entry_47 ?_
        exact ⟨rfl, _, rfl, zMP_1 (j := 0) (by unfold zx_entry; rw [if_pos (fun q => by first | exact absurd q.1 (by rw [c_6]; decide) | exact absurd q.2.1 (by unfold zino; rw [c_14]; decide) | exact absurd q.2.2.1 (by unfold zino; rw [c_23]; decide) | exact absurd q.2.2.2 (by unfold zino; rw [c_32]; decide))]) rfl⟩
    · skip
      try simp (disch := omega) only [zb_notn, zb_not, zb_n0, zb_0, Bool.not_eq_false, Bool.not_eq_true, Bool.not_eq_true', Bool.not_eq_false', decide_eq_true_eq, decide_eq_false_iff_not, Classical.not_not] at c_14
      refine z_aload_n X dX9_entry_17 rfl ?_
      refine z_iload X dX9_entry_18 rfl ?_
      refine z_runV X kX9_162 (tX9_isIdeaOrNone _ hS hi (by omega)) (zso_21 hS) rfl rfl (Nat.le_of_ble_eq_true rfl) ⟨by decide, by decide⟩ ⟨by decide, by decide⟩ dX9_entry_20 ?_
      rintro _ g1 s1 ⟨rfl, h8, h9⟩
      replace h8 := h8.symm
      subst h8
      replace h9 := h9.symm
      subst h9
      refine z_if_eq (tgt := 39) X dX9_entry_23 (by decide) (fun c_23 => ?_) (fun c_23 => ?_)
      · skip
        try simp (disch := omega) only [zb_notn, zb_not, zb_n0, zb_0, Bool.not_eq_false, Bool.not_eq_true, Bool.not_eq_true', Bool.not_eq_false', decide_eq_true_eq, decide_eq_false_iff_not, Classical.not_not] at c_23
        refine z_iconst (v := nI 0) X (by decide) dX9_entry_39 ?_
        refine z_runV X kX9_150 (tX9_asks false hS) (zso_21 hS) rfl rfl (Nat.le_of_ble_eq_true rfl) ⟨by decide, by decide⟩ ⟨by decide, by decide⟩ dX9_entry_40 ?_
        rintro _ g1 s1 ⟨rfl, h8, h9⟩
        replace h8 := h8.symm
        subst h8
        replace h9 := h9.symm
        subst h9
        refine z_if_ne (tgt := 48) X dX9_entry_43 (by decide) (fun c_43 => ?_) (fun c_43 => ?_)
        · first | exact absurd c_43 (by decide) | exact absurd (by decide) c_43
        · skip
          refine z_iconst (v := 0) X (by decide) dX9_entry_46 ?_
          refine z_iret X (by decide) (by decide) rfl dX9_entry_47 ?_
          exact ⟨rfl, _, rfl, zMP_1 (j := 0) (by unfold zx_entry; rw [if_pos (fun q => by first | exact absurd q.1 (by rw [c_6]; decide) | exact absurd q.2.1 (by unfold zino; rw [c_14]; decide) | exact absurd q.2.2.1 (by unfold zino; rw [c_23]; decide) | exact absurd q.2.2.2 (by unfold zino; rw [c_32]; decide))]) rfl⟩
      · skip
        try simp (disch := omega) only [zb_notn, zb_not, zb_n0, zb_0, Bool.not_eq_false, Bool.not_eq_true, Bool.not_eq_true', Bool.not_eq_false', decide_eq_true_eq, decide_eq_false_iff_not, Classical.not_not] at c_23
        refine z_aload_n X dX9_entry_26 rfl ?_
        refine z_iload X dX9_entry_27 rfl ?_
        refine z_runV X kX9_162 (tX9_isIdeaOrNone _ hS hi (by omega)) (zso_21 hS) rfl rfl (Nat.le_of_ble_eq_true rfl) ⟨by decide, by decide⟩ ⟨by decide, by decide⟩ dX9_entry_29 ?_
        rintro _ g1 s1 ⟨rfl, h8, h9⟩
        replace h8 := h8.symm
        subst h8
        replace h9 := h9.symm
        subst h9
        refine z_if_eq (tgt := 39) X dX9_entry_32 (by decide) (fun c_32 => ?_) (fun c_32 => ?_)
        · skip
          try simp (disch := omega) only [zb_notn, zb_not, zb_n0, zb_0, Bool.not_eq_false, Bool.not_eq_true, Bool.not_eq_true', Bool.not_eq_false', decide_eq_true_eq, decide_eq_false_iff_not, Classical.not_not] at c_32
          refine z_iconst (v := nI 0) X (by decide) dX9_entry_39 ?_
          refine z_runV X kX9_150 (tX9_asks false hS) (zso_21 hS) rfl rfl (Nat.le_of_ble_eq_true rfl) ⟨by decide, by decide⟩ ⟨by decide, by decide⟩ dX9_entry_40 ?_
          rintro _ g1 s1 ⟨rfl, h8, h9⟩
          replace h8 := h8.symm
          subst h8
          replace h9 := h9.symm
          subst h9
          refine z_if_ne (tgt := 48) X dX9_entry_43 (by decide) (fun c_43 => ?_) (fun c_43 => ?_)
          · first | exact absurd c_43 (by decide) | exact absurd (by decide) c_43
          · skip
            refine z_iconst (v := 0) X (by decide) dX9_entry_46 ?_
            refine z_iret X (by decide) (by decide) rfl dX9_entry_47 ?_
            exact ⟨rfl, _, rfl, zMP_1 (j := 0) (by unfold zx_entry; rw [if_pos (fun q => by first | exact absurd q.1 (by rw [c_6]; decide) | exact absurd q.2.1 (by unfold zino; rw [c_14]; decide) | exact absurd q.2.2.1 (by unfold zino; rw [c_23]; decide) | exact absurd q.2.2.2 (by unfold zino; rw [c_32]; decide))]) rfl⟩
        · skip
          try simp (disch := omega) only [zb_notn, zb_not, zb_n0, zb_0, Bool.not_eq_false, Bool.not_eq_true, Bool.not_eq_true', Bool.not_eq_false', decide_eq_true_eq, decide_eq_false_iff_not, Classical.not_not] at c_32
          refine z_iconst (v := nI 1) X (by decide) dX9_entry_35 ?_
          refine z_goto (tgt := 40) X dX9_entry_36 (by decide) ?_
          refine z_runV X kX9_150 (tX9_asks true hS) (zso_21 hS) rfl rfl (Nat.le_of_ble_eq_true rfl) ⟨by decide, by decide⟩ ⟨by decide, by decide⟩ dX9_entry_40 ?_
          rintro _ g1 s1 ⟨rfl, h8, h9⟩
          replace h8 := h8.symm
          subst h8
          replace h9 := h9.symm
          subst h9
          refine z_if_ne (tgt := 48) X dX9_entry_43 (by decide) (fun c_43 => ?_) (fun c_43 => ?_)
          · skip
            obtain ⟨τ, hτ⟩ : ∃ q, q = z_up σ 21 48 0 := ⟨_, rfl⟩
            rw [show z_up σ 21 48 (if true = true then 0 else 1) = τ from hτ.symm]
            have eτ : ∀ i, i ≠ 21 → τ i = σ i := fun i h => by rw [hτ, z_up_ne h]
            have eτ1 : ∀ k, k ≠ 48 → τ 21 k = σ 21 k := fun k h => by rw [hτ, z_up_app, if_pos rfl, if_neg h]
            have heτ : τ 21 2 = nI ne := (eτ1 2 (by decide)).trans he
            have hCτ : ∀ k, k < ne → zwd (τ 23 k) := by rw [eτ 23 (by decide)]; exact hC
            refine z_iload_n X dX9_entry_48 rfl ?_
            refine z_runS X kX9_165 (tX9_isWordN _) rfl rfl (Nat.le_of_ble_eq_true rfl) ⟨by decide, by decide⟩ ⟨by decide, by decide⟩ dX9_entry_49 ?_
            rintro _ g1 s1 ⟨rfl, h8, h9⟩
            replace h8 := h8.symm
            subst h8
            replace h9 := h9.symm
            subst h9
            refine z_if_eq (tgt := 78) X dX9_entry_52 (by decide) (fun c_52 => ?_) (fun c_52 => ?_)
            · skip
              try simp (disch := omega) only [zb_notn, zb_not, zb_n0, zb_0, Bool.not_eq_false, Bool.not_eq_true, Bool.not_eq_true', Bool.not_eq_false', decide_eq_true_eq, decide_eq_false_iff_not, Classical.not_not] at c_52
              refine z_aload_n X dX9_entry_78 rfl ?_
              refine z_iconst (v := 2) X (by decide) dX9_entry_79 ?_
              refine z_runV X kX9_154 (tX9_fails _ hS) (zso_21 hS) rfl rfl (Nat.le_of_ble_eq_true rfl) ⟨by decide, by decide⟩ ⟨by decide, by decide⟩ dX9_entry_80 ?_
              rintro _ g1 s1 ⟨rfl, h8, h9⟩
              replace h8 := h8.symm
              subst h8
              replace h9 := h9.symm
              subst h9
              refine z_iret X (by decide) (by decide) rfl dX9_entry_83 ?_
              exact ⟨rfl, _, rfl, by rw [hτ]; exact zMP_2 (j := 1) (by unfold zx_entry; rw [if_neg (fun q => q ⟨c_6, c_14, c_23, c_32⟩), if_pos (by first | exact Or.inl c_52 | exact Or.inr (Or.inl ⟨c_57, c_63⟩) | exact Or.inr (Or.inr ⟨c_69, c_75⟩))]) rfl⟩
            · skip
              try simp (disch := omega) only [zb_notn, zb_not, zb_n0, zb_0, Bool.not_eq_false, Bool.not_eq_true, Bool.not_eq_true', Bool.not_eq_false', decide_eq_true_eq, decide_eq_false_iff_not, Classical.not_not] at c_52
              refine z_iload_n X dX9_entry_55 rfl ?_
              refine z_iconst (v := -1) X (by decide) dX9_entry_56 ?_
              refine z_icmp_ne (tgt := 66) X dX9_entry_57 (by decide) (fun c_57 => ?_) (fun c_57 => ?_)
              · skip
                refine z_iload X dX9_entry_66 rfl ?_
                refine z_iconst (v := -1) X (by decide) dX9_entry_68 ?_
                refine z_icmp_ne (tgt := 84) X dX9_entry_69 (by decide) (fun c_69 => ?_) (fun c_69 => ?_)
                · skip
                  obtain ⟨W, hW, rfl⟩ := zwd_of c_52
                  refine z_aload_n X dX9_entry_84 rfl ?_
                  refine z_geti X fX9_168 (zso_21 hS) rfl dX9_entry_85 ?_
                  rw [heτ]
                  refine z_bipush (v := nI 40) X (by decide) dX9_entry_88 ?_
                  refine z_icmp_ge (tgt := 97) X dX9_entry_90 (by decide) (fun c_90 => ?_) (fun c_90 => ?_)
                  · skip
                    try simp (disch := omega) only [zk0, nI_leI, nI_ltI, nI_eq, zbk_notn, zbk_not, zbk_n0, zbk_0, zb_0, zb_n0, zb_not, zb_notn, Bool.not_eq_false, Bool.not_eq_true, Bool.not_eq_true', Bool.not_eq_false', decide_eq_true_eq, decide_eq_false_iff_not, Classical.not_not] at c_90
                    refine z_iconst (v := nI 0) X (by decide) dX9_entry_97 ?_
                    first | (have ht0 : true = true ↔ zmay (τ 24) (τ 23) ne (nI W) a b c9 d 0 := ⟨fun _ => ⟨by omega, fun j hj => absurd hj (Nat.not_lt_zero _)⟩, fun _ => rfl⟩; rw [show Value.int (nI 1) = Value.int (zb true) from rfl]) | (have ht0 : false = true ↔ zmay (τ 24) (τ 23) ne (nI W) a b c9 d 0 := ⟨fun q => absurd q (by decide), fun q => by have := q.1; omega⟩; rw [show Value.int (nI 0) = Value.int (zb false) from rfl])
                    refine z_istore X dX9_entry_98 (by decide) ?_
                    have loop_103 : ∀ (n : Nat) (k : Nat) (t : Bool) (v8 : Option Value) (hk : k ≤ ne) (ht : t = true ↔ zmay (τ 24) (τ 23) ne (nI W) a b c9 d k) (hn : ne - k < n), z_V p l e (zRm MX9_entry) s m args below meth c 9 D cy z0 0 0 (zQm MX9_entry below D cy z0 (fun v g' σ' => g' = g ∧ ∃ r, v = some (.int r) ∧ zMP (zx_entry ρ ni ne (nI W) a b c9 d) σ σ' (r = nI ne ∧ σ' = z_up (z_up (z_up (z_up (z_up (z_up (z_up σ 21 48 0) 23 ne (nI W)) 24 (4 * ne) a) 24 (4 * ne + 1) b) 24 (4 * ne + 2) c9) 24 (4 * ne + 3) d) 21 2 (nI (ne + 1)))) args s) 103 [some (.ref (g.2.1 21)), some (.int (nI W)), some (.int a), some (.int b), some (.int c9), some (.int d), some (.int (zb t)), some (.int (nI k)), v8] [] g τ := by
                      intro n
                      induction n with
                      | zero => intro k t v8 hk ht hn; exact absurd hn (Nat.not_lt_zero _)
                      | succ n ih_103 =>
                        intro k t v8 hk ht hn
                        refine z_iload X dX9_entry_103 rfl ?_
                        refine z_aload_n X dX9_entry_105 rfl ?_
                        refine z_geti X fX9_168 (zso_21 hS) rfl dX9_entry_106 ?_
                        rw [heτ]
                        refine z_icmp_ge (tgt := 217) X dX9_entry_109 (by decide) (fun c_109 => ?_) (fun c_109 => ?_)
                        · skip
                          try simp (disch := omega) only [zk0, nI_leI, nI_ltI, nI_eq, zbk_notn, zbk_not, zbk_n0, zbk_0, zb_0, zb_n0, zb_not, zb_notn, Bool.not_eq_false, Bool.not_eq_true, Bool.not_eq_true', Bool.not_eq_false', decide_eq_true_eq, decide_eq_false_iff_not, Classical.not_not] at c_109
                          have e : ne = k := by omega
                          subst e
                          refine z_iload X dX9_entry_217 rfl ?_
                          refine z_if_ne (tgt := 228) X dX9_entry_219 (by decide) (fun c_219 => ?_) (fun c_219 => ?_)
                          · skip
                            try simp (disch := omega) only [zb_notn, zb_not, zb_n0, zb_0, Bool.not_eq_false, Bool.not_eq_true, Bool.not_eq_true', Bool.not_eq_false', decide_eq_true_eq, decide_eq_false_iff_not, Classical.not_not] at c_219
                            have h40 : ne < 40 := (ht.mp c_219).1
                            refine z_aload_n X dX9_entry_228 rfl ?_
                            refine z_getr2 X fX9_13 (zso_21 hS) (zsr_21_3 hS) rfl dX9_entry_229 ?_
                            refine z_aload_n X dX9_entry_232 rfl ?_
                            refine z_geti X fX9_168 (zso_21 hS) rfl dX9_entry_233 ?_
                            rw [heτ]
                            refine z_iload_n X dX9_entry_236 rfl ?_
                            refine z_iastN X (zsa_23 hS) (by omega) (by omega) dX9_entry_237 ?_
                            refine z_aload_n X dX9_entry_238 rfl ?_
                            refine z_getr2 X fX9_16 (zso_21 hS) (zsr_21_4 hS) rfl dX9_entry_239 ?_
                            refine z_iconst (v := nI 4) X (by decide) dX9_entry_242 ?_
                            refine z_aload_n X dX9_entry_243 rfl ?_
                            refine z_geti X fX9_168 (zso_21 hS) rfl dX9_entry_244 ?_
                            repeat rw [z_up_ne (by decide)]
                            rw [heτ]
                            refine z_imulN X dX9_entry_247 ?_
                            refine z_iload_n X dX9_entry_248 rfl ?_
                            refine z_iastN X (zsa_24 hS) (by omega) (by omega) dX9_entry_249 ?_
                            refine z_aload_n X dX9_entry_250 rfl ?_
                            refine z_getr2 X fX9_16 (zso_21 hS) (zsr_21_4 hS) rfl dX9_entry_251 ?_
                            refine z_iconst (v := nI 4) X (by decide) dX9_entry_254 ?_
                            refine z_aload_n X dX9_entry_255 rfl ?_
                            refine z_geti X fX9_168 (zso_21 hS) rfl dX9_entry_256 ?_
                            repeat rw [z_up_ne (by decide)]
                            rw [heτ]
                            refine z_imulN X dX9_entry_259 ?_
                            refine z_iconst (v := nI 1) X (by decide) dX9_entry_260 ?_
                            refine z_iaddN X dX9_entry_261 ?_
                            refine z_iload_n X dX9_entry_262 rfl ?_
                            refine z_iastN X (zsa_24 hS) (by omega) (by omega) dX9_entry_263 ?_
                            refine z_aload_n X dX9_entry_264 rfl ?_
                            refine z_getr2 X fX9_16 (zso_21 hS) (zsr_21_4 hS) rfl dX9_entry_265 ?_
                            refine z_iconst (v := nI 4) X (by decide) dX9_entry_268 ?_
                            refine z_aload_n X dX9_entry_269 rfl ?_
                            refine z_geti X fX9_168 (zso_21 hS) rfl dX9_entry_270 ?_
                            repeat rw [z_up_ne (by decide)]
                            rw [heτ]
                            refine z_imulN X dX9_entry_273 ?_
                            refine z_iconst (v := nI 2) X (by decide) dX9_entry_274 ?_
                            refine z_iaddN X dX9_entry_275 ?_
                            refine z_iload X dX9_entry_276 rfl ?_
                            refine z_iastN X (zsa_24 hS) (by omega) (by omega) dX9_entry_278 ?_
                            refine z_aload_n X dX9_entry_279 rfl ?_
                            refine z_getr2 X fX9_16 (zso_21 hS) (zsr_21_4 hS) rfl dX9_entry_280 ?_
                            refine z_iconst (v := nI 4) X (by decide) dX9_entry_283 ?_
                            refine z_aload_n X dX9_entry_284 rfl ?_
                            refine z_geti X fX9_168 (zso_21 hS) rfl dX9_entry_285 ?_
                            repeat rw [z_up_ne (by decide)]
                            rw [heτ]
                            refine z_imulN X dX9_entry_288 ?_
                            refine z_iconst (v := nI 3) X (by decide) dX9_entry_289 ?_
                            refine z_iaddN X dX9_entry_290 ?_
                            refine z_iload X dX9_entry_291 rfl ?_
                            refine z_iastN X (zsa_24 hS) (by omega) (by omega) dX9_entry_293 ?_
                            refine z_aload_n X dX9_entry_294 rfl ?_
                            refine z_dup X rfl dX9_entry_295 ?_
                            refine z_geti X fX9_168 (zso_21 hS) rfl dX9_entry_296 ?_
                            repeat rw [z_up_ne (by decide)]
                            rw [heτ]
                            refine z_iconst (v := nI 1) X (by decide) dX9_entry_299 ?_
                            refine z_iaddN X dX9_entry_300 ?_
                            refine z_puti X fX9_168 (zso_21 hS) rfl dX9_entry_301 ?_
                            refine z_aload_n X dX9_entry_304 rfl ?_
                            refine z_geti X fX9_168 (zso_21 hS) rfl dX9_entry_305 ?_
                            rw [z_up_app, if_pos rfl, if_pos rfl]
                            refine z_iconst (v := nI 1) X (by decide) dX9_entry_308 ?_
                            refine z_isubN X (by omega) dX9_entry_309 ?_
                            refine z_iret X (by decide) (by decide) rfl dX9_entry_310 ?_
                            exact ⟨rfl, _, rfl, Or.inr ⟨by unfold zx_entry; rw [if_neg (fun q => q ⟨c_6, c_14, c_23, c_32⟩), if_neg (fun q => by rcases q with q | ⟨q1, q2⟩ | ⟨q1, q2⟩; exact c_52 q; (first | exact c_57 q1 | exact q2 c_63); (first | exact c_69 q1 | exact q2 c_75)), zif_f (zmay_t e4 e5 eτ (ht.mp c_219))], by congr 1, by rw [hτ]⟩⟩
                          · skip
                            try simp (disch := omega) only [zb_notn, zb_not, zb_n0, zb_0, Bool.not_eq_false, Bool.not_eq_true, Bool.not_eq_true', Bool.not_eq_false', decide_eq_true_eq, decide_eq_false_iff_not, Classical.not_not] at c_219
                            refine z_aload_n X dX9_entry_222 rfl ?_
                            refine z_iconst (v := 3) X (by decide) dX9_entry_223 ?_
                            refine z_runV X kX9_154 (tX9_fails _ hS) (zso_21 hS) rfl rfl (Nat.le_of_ble_eq_true rfl) ⟨by decide, by decide⟩ ⟨by decide, by decide⟩ dX9_entry_224 ?_
                            rintro _ g1 s1 ⟨rfl, h8, h9⟩
                            replace h8 := h8.symm
                            subst h8
                            replace h9 := h9.symm
                            subst h9
                            refine z_iret X (by decide) (by decide) rfl dX9_entry_227 ?_
                            exact ⟨rfl, _, rfl, by rw [hτ]; exact zMP_2 (j := 2) (by unfold zx_entry; rw [if_neg (fun q => q ⟨c_6, c_14, c_23, c_32⟩), if_neg (fun q => by rcases q with q | ⟨q1, q2⟩ | ⟨q1, q2⟩; exact c_52 q; (first | exact c_57 q1 | exact q2 c_63); (first | exact c_69 q1 | exact q2 c_75)), zif_t (zmay_f e4 e5 eτ (by omega) (fun q => absurd (ht.mpr q) (by rw [c_219]; decide)))]) rfl⟩
                        · skip
                          try simp (disch := omega) only [zk0, nI_leI, nI_ltI, nI_eq, zbk_notn, zbk_not, zbk_n0, zbk_0, zb_0, zb_n0, zb_not, zb_notn, Bool.not_eq_false, Bool.not_eq_true, Bool.not_eq_true', Bool.not_eq_false', decide_eq_true_eq, decide_eq_false_iff_not, Classical.not_not] at c_109
                          refine z_aload_n X dX9_entry_112 rfl ?_
                          refine z_getr2 X fX9_16 (zso_21 hS) (zsr_21_4 hS) rfl dX9_entry_113 ?_
                          refine z_iconst (v := nI 4) X (by decide) dX9_entry_116 ?_
                          refine z_iload X dX9_entry_117 rfl ?_
                          refine z_imulN X dX9_entry_119 ?_
                          refine z_ialdN X (zsa_24 hS) (by omega) (by omega) dX9_entry_120 ?_
                          refine z_iload_n X dX9_entry_121 rfl ?_
                          refine z_icmp_ne (tgt := 176) X dX9_entry_122 (by decide) (fun c_122 => ?_) (fun c_122 => ?_)
                          · skip
                            refine z_iconst (v := nI 0) X (by decide) dX9_entry_176 ?_
                            refine z_istore X dX9_entry_177 (by decide) ?_
                            refine z_iload X dX9_entry_179 rfl ?_
                            refine z_if_eq (tgt := 208) X dX9_entry_181 (by decide) (fun c_181 => ?_) (fun c_181 => ?_)
                            · skip
                              try simp (disch := omega) only [zb_notn, zb_not, zb_n0, zb_0, Bool.not_eq_false, Bool.not_eq_true, Bool.not_eq_true', Bool.not_eq_false', decide_eq_true_eq, decide_eq_false_iff_not, Classical.not_not] at c_181
                              have hN : ¬ zmay (τ 24) (τ 23) ne (nI W) a b c9 d (k + 1) := fun q => by first | exact absurd (ht.mpr ⟨q.1, fun j hj => q.2 j (by omega)⟩) (by rw [c_181]; decide) | exact (q.2 k (by omega)).1 ⟨c_122, c_137, c_153, c_169⟩ | (have q9 := (q.2 k (by omega)).2; rw [eC] at q9; omega)
                              refine z_iconst (v := nI 0) X (by decide) dX9_entry_208 ?_
                              refine z_istore X dX9_entry_209 (by decide) ?_
                              refine z_inc1 X dX9_entry_211 rfl (by decide) ?_
                              refine z_goto (tgt := 103) X dX9_entry_214 (by decide) ?_
                              first | exact ih_103 (k + 1) true _ (by omega) ⟨fun _ => hY, fun _ => rfl⟩ (by omega) | exact ih_103 (k + 1) false _ (by omega) ⟨fun q => absurd q (by decide), fun q => absurd q hN⟩ (by omega)
                            · skip
                              try simp (disch := omega) only [zb_notn, zb_not, zb_n0, zb_0, Bool.not_eq_false, Bool.not_eq_true, Bool.not_eq_true', Bool.not_eq_false', decide_eq_true_eq, decide_eq_false_iff_not, Classical.not_not] at c_181
                              refine z_iload X dX9_entry_184 rfl ?_
                              refine z_if_ne (tgt := 208) X dX9_entry_186 (by decide) (fun c_186 => ?_) (fun c_186 => ?_)
                              · first | exact absurd c_186 (by decide) | exact absurd (by decide) c_186
                              · skip
                                refine z_aload_n X dX9_entry_189 rfl ?_
                                refine z_getr2 X fX9_13 (zso_21 hS) (zsr_21_3 hS) rfl dX9_entry_190 ?_
                                refine z_iload X dX9_entry_193 rfl ?_
                                refine z_ialdN X (zsa_23 hS) (by omega) (by omega) dX9_entry_195 ?_
                                refine z_iload_n X dX9_entry_196 rfl ?_
                                obtain ⟨Ck, hCk, eC⟩ := hCτ k (by omega)
                                have hz5 := zpk_le (nI Ck) (nI W) 5
                                replace hz5 : zp (nI Ck) (nI W) ≤ 5 := hz5
                                rw [eC]
                                refine z_runS X kX9_147 (tX9_parts _ _ (by omega) (by omega)) rfl rfl (Nat.le_of_ble_eq_true rfl) ⟨by decide, by decide⟩ ⟨by decide, by decide⟩ dX9_entry_197 ?_
                                rintro _ g1 s1 ⟨rfl, h8, h9⟩
                                replace h8 := h8.symm
                                subst h8
                                replace h9 := h9.symm
                                subst h9
                                refine z_iconst (v := nI 1) X (by decide) dX9_entry_200 ?_
                                refine z_icmp_le (tgt := 208) X dX9_entry_201 (by decide) (fun c_201 => ?_) (fun c_201 => ?_)
                                · skip
                                  try simp (disch := omega) only [zk0, nI_leI, nI_ltI, nI_eq, zbk_notn, zbk_not, zbk_n0, zbk_0, zb_0, zb_n0, zb_not, zb_notn, Bool.not_eq_false, Bool.not_eq_true, Bool.not_eq_true', Bool.not_eq_false', decide_eq_true_eq, decide_eq_false_iff_not, Classical.not_not] at c_201
                                  have hN : ¬ zmay (τ 24) (τ 23) ne (nI W) a b c9 d (k + 1) := fun q => by first | exact absurd (ht.mpr ⟨q.1, fun j hj => q.2 j (by omega)⟩) (by rw [c_181]; decide) | exact (q.2 k (by omega)).1 ⟨c_122, c_137, c_153, c_169⟩ | (have q9 := (q.2 k (by omega)).2; rw [eC] at q9; omega)
                                  refine z_iconst (v := nI 0) X (by decide) dX9_entry_208 ?_
                                  refine z_istore X dX9_entry_209 (by decide) ?_
                                  refine z_inc1 X dX9_entry_211 rfl (by decide) ?_
                                  refine z_goto (tgt := 103) X dX9_entry_214 (by decide) ?_
                                  first | exact ih_103 (k + 1) true _ (by omega) ⟨fun _ => hY, fun _ => rfl⟩ (by omega) | exact ih_103 (k + 1) false _ (by omega) ⟨fun q => absurd q (by decide), fun q => absurd q hN⟩ (by omega)
                                · skip
                                  try simp (disch := omega) only [zk0, nI_leI, nI_ltI, nI_eq, zbk_notn, zbk_not, zbk_n0, zbk_0, zb_0, zb_n0, zb_not, zb_notn, Bool.not_eq_false, Bool.not_eq_true, Bool.not_eq_true', Bool.not_eq_false', decide_eq_true_eq, decide_eq_false_iff_not, Classical.not_not] at c_201
                                  have hY : zmay (τ 24) (τ 23) ne (nI W) a b c9 d (k + 1) := ⟨(ht.mp c_181).1, fun j hj => by rcases Nat.lt_or_ge j k with h | h; exact (ht.mp c_181).2 j h; (have e : j = k := by omega); subst e; exact ⟨fun q => by first | exact c_122 q.1 | exact c_137 q.2.1 | exact c_153 q.2.2.1 | exact c_169 q.2.2.2, by rw [eC]; omega⟩⟩
                                  refine z_iconst (v := nI 1) X (by decide) dX9_entry_204 ?_
                                  refine z_goto (tgt := 209) X dX9_entry_205 (by decide) ?_
                                  refine z_istore X dX9_entry_209 (by decide) ?_
                                  refine z_inc1 X dX9_entry_211 rfl (by decide) ?_
                                  refine z_goto (tgt := 103) X dX9_entry_214 (by decide) ?_
                                  first | exact ih_103 (k + 1) true _ (by omega) ⟨fun _ => hY, fun _ => rfl⟩ (by omega) | exact ih_103 (k + 1) false _ (by omega) ⟨fun q => absurd q (by decide), fun q => absurd q hN⟩ (by omega)
                          · skip
                            refine z_aload_n X dX9_entry_125 rfl ?_
                            refine z_getr2 X fX9_16 (zso_21 hS) (zsr_21_4 hS) rfl dX9_entry_126 ?_
                            refine z_iconst (v := nI 4) X (by decide) dX9_entry_129 ?_
                            refine z_iload X dX9_entry_130 rfl ?_
                            refine z_imulN X dX9_entry_132 ?_
                            refine z_iconst (v := nI 1) X (by decide) dX9_entry_133 ?_
                            refine z_iaddN X dX9_entry_134 ?_
                            refine z_ialdN X (zsa_24 hS) (by omega) (by omega) dX9_entry_135 ?_
                            refine z_iload_n X dX9_entry_136 rfl ?_
                            refine z_icmp_ne (tgt := 176) X dX9_entry_137 (by decide) (fun c_137 => ?_) (fun c_137 => ?_)
                            · skip
                              refine z_iconst (v := nI 0) X (by decide) dX9_entry_176 ?_
                              refine z_istore X dX9_entry_177 (by decide) ?_
                              refine z_iload X dX9_entry_179 rfl ?_
                              refine z_if_eq (tgt := 208) X dX9_entry_181 (by decide) (fun c_181 => ?_) (fun c_181 => ?_)
                              · skip
                                try simp (disch := omega) only [zb_notn, zb_not, zb_n0, zb_0, Bool.not_eq_false, Bool.not_eq_true, Bool.not_eq_true', Bool.not_eq_false', decide_eq_true_eq, decide_eq_false_iff_not, Classical.not_not] at c_181
                                have hN : ¬ zmay (τ 24) (τ 23) ne (nI W) a b c9 d (k + 1) := fun q => by first | exact absurd (ht.mpr ⟨q.1, fun j hj => q.2 j (by omega)⟩) (by rw [c_181]; decide) | exact (q.2 k (by omega)).1 ⟨c_122, c_137, c_153, c_169⟩ | (have q9 := (q.2 k (by omega)).2; rw [eC] at q9; omega)
                                refine z_iconst (v := nI 0) X (by decide) dX9_entry_208 ?_
                                refine z_istore X dX9_entry_209 (by decide) ?_
                                refine z_inc1 X dX9_entry_211 rfl (by decide) ?_
                                refine z_goto (tgt := 103) X dX9_entry_214 (by decide) ?_
                                first | exact ih_103 (k + 1) true _ (by omega) ⟨fun _ => hY, fun _ => rfl⟩ (by omega) | exact ih_103 (k + 1) false _ (by omega) ⟨fun q => absurd q (by decide), fun q => absurd q hN⟩ (by omega)
                              · skip
                                try simp (disch := omega) only [zb_notn, zb_not, zb_n0, zb_0, Bool.not_eq_false, Bool.not_eq_true, Bool.not_eq_true', Bool.not_eq_false', decide_eq_true_eq, decide_eq_false_iff_not, Classical.not_not] at c_181
                                refine z_iload X dX9_entry_184 rfl ?_
                                refine z_if_ne (tgt := 208) X dX9_entry_186 (by decide) (fun c_186 => ?_) (fun c_186 => ?_)
                                · first | exact absurd c_186 (by decide) | exact absurd (by decide) c_186
                                · skip
                                  refine z_aload_n X dX9_entry_189 rfl ?_
                                  refine z_getr2 X fX9_13 (zso_21 hS) (zsr_21_3 hS) rfl dX9_entry_190 ?_
                                  refine z_iload X dX9_entry_193 rfl ?_
                                  refine z_ialdN X (zsa_23 hS) (by omega) (by omega) dX9_entry_195 ?_
                                  refine z_iload_n X dX9_entry_196 rfl ?_
                                  obtain ⟨Ck, hCk, eC⟩ := hCτ k (by omega)
                                  have hz5 := zpk_le (nI Ck) (nI W) 5
                                  replace hz5 : zp (nI Ck) (nI W) ≤ 5 := hz5
                                  rw [eC]
                                  refine z_runS X kX9_147 (tX9_parts _ _ (by omega) (by omega)) rfl rfl (Nat.le_of_ble_eq_true rfl) ⟨by decide, by decide⟩ ⟨by decide, by decide⟩ dX9_entry_197 ?_
                                  rintro _ g1 s1 ⟨rfl, h8, h9⟩
                                  replace h8 := h8.symm
                                  subst h8
                                  replace h9 := h9.symm
                                  subst h9
                                  refine z_iconst (v := nI 1) X (by decide) dX9_entry_200 ?_
                                  refine z_icmp_le (tgt := 208) X dX9_entry_201 (by decide) (fun c_201 => ?_) (fun c_201 => ?_)
                                  · skip
                                    try simp (disch := omega) only [zk0, nI_leI, nI_ltI, nI_eq, zbk_notn, zbk_not, zbk_n0, zbk_0, zb_0, zb_n0, zb_not, zb_notn, Bool.not_eq_false, Bool.not_eq_true, Bool.not_eq_true', Bool.not_eq_false', decide_eq_true_eq, decide_eq_false_iff_not, Classical.not_not] at c_201
                                    have hN : ¬ zmay (τ 24) (τ 23) ne (nI W) a b c9 d (k + 1) := fun q => by first | exact absurd (ht.mpr ⟨q.1, fun j hj => q.2 j (by omega)⟩) (by rw [c_181]; decide) | exact (q.2 k (by omega)).1 ⟨c_122, c_137, c_153, c_169⟩ | (have q9 := (q.2 k (by omega)).2; rw [eC] at q9; omega)
                                    refine z_iconst (v := nI 0) X (by decide) dX9_entry_208 ?_
                                    refine z_istore X dX9_entry_209 (by decide) ?_
                                    refine z_inc1 X dX9_entry_211 rfl (by decide) ?_
                                    refine z_goto (tgt := 103) X dX9_entry_214 (by decide) ?_
                                    first | exact ih_103 (k + 1) true _ (by omega) ⟨fun _ => hY, fun _ => rfl⟩ (by omega) | exact ih_103 (k + 1) false _ (by omega) ⟨fun q => absurd q (by decide), fun q => absurd q hN⟩ (by omega)
                                  · skip
                                    try simp (disch := omega) only [zk0, nI_leI, nI_ltI, nI_eq, zbk_notn, zbk_not, zbk_n0, zbk_0, zb_0, zb_n0, zb_not, zb_notn, Bool.not_eq_false, Bool.not_eq_true, Bool.not_eq_true', Bool.not_eq_false', decide_eq_true_eq, decide_eq_false_iff_not, Classical.not_not] at c_201
                                    have hY : zmay (τ 24) (τ 23) ne (nI W) a b c9 d (k + 1) := ⟨(ht.mp c_181).1, fun j hj => by rcases Nat.lt_or_ge j k with h | h; exact (ht.mp c_181).2 j h; (have e : j = k := by omega); subst e; exact ⟨fun q => by first | exact c_122 q.1 | exact c_137 q.2.1 | exact c_153 q.2.2.1 | exact c_169 q.2.2.2, by rw [eC]; omega⟩⟩
                                    refine z_iconst (v := nI 1) X (by decide) dX9_entry_204 ?_
                                    refine z_goto (tgt := 209) X dX9_entry_205 (by decide) ?_
                                    refine z_istore X dX9_entry_209 (by decide) ?_
                                    refine z_inc1 X dX9_entry_211 rfl (by decide) ?_
                                    refine z_goto (tgt := 103) X dX9_entry_214 (by decide) ?_
                                    first | exact ih_103 (k + 1) true _ (by omega) ⟨fun _ => hY, fun _ => rfl⟩ (by omega) | exact ih_103 (k + 1) false _ (by omega) ⟨fun q => absurd q (by decide), fun q => absurd q hN⟩ (by omega)
                            · skip
                              refine z_aload_n X dX9_entry_140 rfl ?_
                              refine z_getr2 X fX9_16 (zso_21 hS) (zsr_21_4 hS) rfl dX9_entry_141 ?_
                              refine z_iconst (v := nI 4) X (by decide) dX9_entry_144 ?_
                              refine z_iload X dX9_entry_145 rfl ?_
                              refine z_imulN X dX9_entry_147 ?_
                              refine z_iconst (v := nI 2) X (by decide) dX9_entry_148 ?_
                              refine z_iaddN X dX9_entry_149 ?_
                              refine z_ialdN X (zsa_24 hS) (by omega) (by omega) dX9_entry_150 ?_
                              refine z_iload X dX9_entry_151 rfl ?_
                              refine z_icmp_ne (tgt := 176) X dX9_entry_153 (by decide) (fun c_153 => ?_) (fun c_153 => ?_)
                              · skip
                                refine z_iconst (v := nI 0) X (by decide) dX9_entry_176 ?_
                                refine z_istore X dX9_entry_177 (by decide) ?_
                                refine z_iload X dX9_entry_179 rfl ?_
                                refine z_if_eq (tgt := 208) X dX9_entry_181 (by decide) (fun c_181 => ?_) (fun c_181 => ?_)
                                · skip
                                  try simp (disch := omega) only [zb_notn, zb_not, zb_n0, zb_0, Bool.not_eq_false, Bool.not_eq_true, Bool.not_eq_true', Bool.not_eq_false', decide_eq_true_eq, decide_eq_false_iff_not, Classical.not_not] at c_181
                                  have hN : ¬ zmay (τ 24) (τ 23) ne (nI W) a b c9 d (k + 1) := fun q => by first | exact absurd (ht.mpr ⟨q.1, fun j hj => q.2 j (by omega)⟩) (by rw [c_181]; decide) | exact (q.2 k (by omega)).1 ⟨c_122, c_137, c_153, c_169⟩ | (have q9 := (q.2 k (by omega)).2; rw [eC] at q9; omega)
                                  refine z_iconst (v := nI 0) X (by decide) dX9_entry_208 ?_
                                  refine z_istore X dX9_entry_209 (by decide) ?_
                                  refine z_inc1 X dX9_entry_211 rfl (by decide) ?_
                                  refine z_goto (tgt := 103) X dX9_entry_214 (by decide) ?_
                                  first | exact ih_103 (k + 1) true _ (by omega) ⟨fun _ => hY, fun _ => rfl⟩ (by omega) | exact ih_103 (k + 1) false _ (by omega) ⟨fun q => absurd q (by decide), fun q => absurd q hN⟩ (by omega)
                                · skip
                                  try simp (disch := omega) only [zb_notn, zb_not, zb_n0, zb_0, Bool.not_eq_false, Bool.not_eq_true, Bool.not_eq_true', Bool.not_eq_false', decide_eq_true_eq, decide_eq_false_iff_not, Classical.not_not] at c_181
                                  refine z_iload X dX9_entry_184 rfl ?_
                                  refine z_if_ne (tgt := 208) X dX9_entry_186 (by decide) (fun c_186 => ?_) (fun c_186 => ?_)
                                  · first | exact absurd c_186 (by decide) | exact absurd (by decide) c_186
                                  · skip
                                    refine z_aload_n X dX9_entry_189 rfl ?_
                                    refine z_getr2 X fX9_13 (zso_21 hS) (zsr_21_3 hS) rfl dX9_entry_190 ?_
                                    refine z_iload X dX9_entry_193 rfl ?_
                                    refine z_ialdN X (zsa_23 hS) (by omega) (by omega) dX9_entry_195 ?_
                                    refine z_iload_n X dX9_entry_196 rfl ?_
                                    obtain ⟨Ck, hCk, eC⟩ := hCτ k (by omega)
                                    have hz5 := zpk_le (nI Ck) (nI W) 5
                                    replace hz5 : zp (nI Ck) (nI W) ≤ 5 := hz5
                                    rw [eC]
                                    refine z_runS X kX9_147 (tX9_parts _ _ (by omega) (by omega)) rfl rfl (Nat.le_of_ble_eq_true rfl) ⟨by decide, by decide⟩ ⟨by decide, by decide⟩ dX9_entry_197 ?_
                                    rintro _ g1 s1 ⟨rfl, h8, h9⟩
                                    replace h8 := h8.symm
                                    subst h8
                                    replace h9 := h9.symm
                                    subst h9
                                    refine z_iconst (v := nI 1) X (by decide) dX9_entry_200 ?_
                                    refine z_icmp_le (tgt := 208) X dX9_entry_201 (by decide) (fun c_201 => ?_) (fun c_201 => ?_)
                                    · skip
                                      try simp (disch := omega) only [zk0, nI_leI, nI_ltI, nI_eq, zbk_notn, zbk_not, zbk_n0, zbk_0, zb_0, zb_n0, zb_not, zb_notn, Bool.not_eq_false, Bool.not_eq_true, Bool.not_eq_true', Bool.not_eq_false', decide_eq_true_eq, decide_eq_false_iff_not, Classical.not_not] at c_201
                                      have hN : ¬ zmay (τ 24) (τ 23) ne (nI W) a b c9 d (k + 1) := fun q => by first | exact absurd (ht.mpr ⟨q.1, fun j hj => q.2 j (by omega)⟩) (by rw [c_181]; decide) | exact (q.2 k (by omega)).1 ⟨c_122, c_137, c_153, c_169⟩ | (have q9 := (q.2 k (by omega)).2; rw [eC] at q9; omega)
                                      refine z_iconst (v := nI 0) X (by decide) dX9_entry_208 ?_
                                      refine z_istore X dX9_entry_209 (by decide) ?_
                                      refine z_inc1 X dX9_entry_211 rfl (by decide) ?_
                                      refine z_goto (tgt := 103) X dX9_entry_214 (by decide) ?_
                                      first | exact ih_103 (k + 1) true _ (by omega) ⟨fun _ => hY, fun _ => rfl⟩ (by omega) | exact ih_103 (k + 1) false _ (by omega) ⟨fun q => absurd q (by decide), fun q => absurd q hN⟩ (by omega)
                                    · skip
                                      try simp (disch := omega) only [zk0, nI_leI, nI_ltI, nI_eq, zbk_notn, zbk_not, zbk_n0, zbk_0, zb_0, zb_n0, zb_not, zb_notn, Bool.not_eq_false, Bool.not_eq_true, Bool.not_eq_true', Bool.not_eq_false', decide_eq_true_eq, decide_eq_false_iff_not, Classical.not_not] at c_201
                                      have hY : zmay (τ 24) (τ 23) ne (nI W) a b c9 d (k + 1) := ⟨(ht.mp c_181).1, fun j hj => by rcases Nat.lt_or_ge j k with h | h; exact (ht.mp c_181).2 j h; (have e : j = k := by omega); subst e; exact ⟨fun q => by first | exact c_122 q.1 | exact c_137 q.2.1 | exact c_153 q.2.2.1 | exact c_169 q.2.2.2, by rw [eC]; omega⟩⟩
                                      refine z_iconst (v := nI 1) X (by decide) dX9_entry_204 ?_
                                      refine z_goto (tgt := 209) X dX9_entry_205 (by decide) ?_
                                      refine z_istore X dX9_entry_209 (by decide) ?_
                                      refine z_inc1 X dX9_entry_211 rfl (by decide) ?_
                                      refine z_goto (tgt := 103) X dX9_entry_214 (by decide) ?_
                                      first | exact ih_103 (k + 1) true _ (by omega) ⟨fun _ => hY, fun _ => rfl⟩ (by omega) | exact ih_103 (k + 1) false _ (by omega) ⟨fun q => absurd q (by decide), fun q => absurd q hN⟩ (by omega)
                              · skip
                                refine z_aload_n X dX9_entry_156 rfl ?_
                                refine z_getr2 X fX9_16 (zso_21 hS) (zsr_21_4 hS) rfl dX9_entry_157 ?_
                                refine z_iconst (v := nI 4) X (by decide) dX9_entry_160 ?_
                                refine z_iload X dX9_entry_161 rfl ?_
                                refine z_imulN X dX9_entry_163 ?_
                                refine z_iconst (v := nI 3) X (by decide) dX9_entry_164 ?_
                                refine z_iaddN X dX9_entry_165 ?_
                                refine z_ialdN X (zsa_24 hS) (by omega) (by omega) dX9_entry_166 ?_
                                refine z_iload X dX9_entry_167 rfl ?_
                                refine z_icmp_ne (tgt := 176) X dX9_entry_169 (by decide) (fun c_169 => ?_) (fun c_169 => ?_)
                                · skip
                                  refine z_iconst (v := nI 0) X (by decide) dX9_entry_176 ?_
                                  refine z_istore X dX9_entry_177 (by decide) ?_
                                  refine z_iload X dX9_entry_179 rfl ?_
                                  refine z_if_eq (tgt := 208) X dX9_entry_181 (by decide) (fun c_181 => ?_) (fun c_181 => ?_)
                                  · skip
                                    try simp (disch := omega) only [zb_notn, zb_not, zb_n0, zb_0, Bool.not_eq_false, Bool.not_eq_true, Bool.not_eq_true', Bool.not_eq_false', decide_eq_true_eq, decide_eq_false_iff_not, Classical.not_not] at c_181
                                    have hN : ¬ zmay (τ 24) (τ 23) ne (nI W) a b c9 d (k + 1) := fun q => by first | exact absurd (ht.mpr ⟨q.1, fun j hj => q.2 j (by omega)⟩) (by rw [c_181]; decide) | exact (q.2 k (by omega)).1 ⟨c_122, c_137, c_153, c_169⟩ | (have q9 := (q.2 k (by omega)).2; rw [eC] at q9; omega)
                                    refine z_iconst (v := nI 0) X (by decide) dX9_entry_208 ?_
                                    refine z_istore X dX9_entry_209 (by decide) ?_
                                    refine z_inc1 X dX9_entry_211 rfl (by decide) ?_
                                    refine z_goto (tgt := 103) X dX9_entry_214 (by decide) ?_
                                    first | exact ih_103 (k + 1) true _ (by omega) ⟨fun _ => hY, fun _ => rfl⟩ (by omega) | exact ih_103 (k + 1) false _ (by omega) ⟨fun q => absurd q (by decide), fun q => absurd q hN⟩ (by omega)
                                  · skip
                                    try simp (disch := omega) only [zb_notn, zb_not, zb_n0, zb_0, Bool.not_eq_false, Bool.not_eq_true, Bool.not_eq_true', Bool.not_eq_false', decide_eq_true_eq, decide_eq_false_iff_not, Classical.not_not] at c_181
                                    refine z_iload X dX9_entry_184 rfl ?_
                                    refine z_if_ne (tgt := 208) X dX9_entry_186 (by decide) (fun c_186 => ?_) (fun c_186 => ?_)
                                    · first | exact absurd c_186 (by decide) | exact absurd (by decide) c_186
                                    · skip
                                      refine z_aload_n X dX9_entry_189 rfl ?_
                                      refine z_getr2 X fX9_13 (zso_21 hS) (zsr_21_3 hS) rfl dX9_entry_190 ?_
                                      refine z_iload X dX9_entry_193 rfl ?_
                                      refine z_ialdN X (zsa_23 hS) (by omega) (by omega) dX9_entry_195 ?_
                                      refine z_iload_n X dX9_entry_196 rfl ?_
                                      obtain ⟨Ck, hCk, eC⟩ := hCτ k (by omega)
                                      have hz5 := zpk_le (nI Ck) (nI W) 5
                                      replace hz5 : zp (nI Ck) (nI W) ≤ 5 := hz5
                                      rw [eC]
                                      refine z_runS X kX9_147 (tX9_parts _ _ (by omega) (by omega)) rfl rfl (Nat.le_of_ble_eq_true rfl) ⟨by decide, by decide⟩ ⟨by decide, by decide⟩ dX9_entry_197 ?_
                                      rintro _ g1 s1 ⟨rfl, h8, h9⟩
                                      replace h8 := h8.symm
                                      subst h8
                                      replace h9 := h9.symm
                                      subst h9
                                      refine z_iconst (v := nI 1) X (by decide) dX9_entry_200 ?_
                                      refine z_icmp_le (tgt := 208) X dX9_entry_201 (by decide) (fun c_201 => ?_) (fun c_201 => ?_)
                                      · skip
                                        try simp (disch := omega) only [zk0, nI_leI, nI_ltI, nI_eq, zbk_notn, zbk_not, zbk_n0, zbk_0, zb_0, zb_n0, zb_not, zb_notn, Bool.not_eq_false, Bool.not_eq_true, Bool.not_eq_true', Bool.not_eq_false', decide_eq_true_eq, decide_eq_false_iff_not, Classical.not_not] at c_201
                                        have hN : ¬ zmay (τ 24) (τ 23) ne (nI W) a b c9 d (k + 1) := fun q => by first | exact absurd (ht.mpr ⟨q.1, fun j hj => q.2 j (by omega)⟩) (by rw [c_181]; decide) | exact (q.2 k (by omega)).1 ⟨c_122, c_137, c_153, c_169⟩ | (have q9 := (q.2 k (by omega)).2; rw [eC] at q9; omega)
                                        refine z_iconst (v := nI 0) X (by decide) dX9_entry_208 ?_
                                        refine z_istore X dX9_entry_209 (by decide) ?_
                                        refine z_inc1 X dX9_entry_211 rfl (by decide) ?_
                                        refine z_goto (tgt := 103) X dX9_entry_214 (by decide) ?_
                                        first | exact ih_103 (k + 1) true _ (by omega) ⟨fun _ => hY, fun _ => rfl⟩ (by omega) | exact ih_103 (k + 1) false _ (by omega) ⟨fun q => absurd q (by decide), fun q => absurd q hN⟩ (by omega)
                                      · skip
                                        try simp (disch := omega) only [zk0, nI_leI, nI_ltI, nI_eq, zbk_notn, zbk_not, zbk_n0, zbk_0, zb_0, zb_n0, zb_not, zb_notn, Bool.not_eq_false, Bool.not_eq_true, Bool.not_eq_true', Bool.not_eq_false', decide_eq_true_eq, decide_eq_false_iff_not, Classical.not_not] at c_201
                                        have hY : zmay (τ 24) (τ 23) ne (nI W) a b c9 d (k + 1) := ⟨(ht.mp c_181).1, fun j hj => by rcases Nat.lt_or_ge j k with h | h; exact (ht.mp c_181).2 j h; (have e : j = k := by omega); subst e; exact ⟨fun q => by first | exact c_122 q.1 | exact c_137 q.2.1 | exact c_153 q.2.2.1 | exact c_169 q.2.2.2, by rw [eC]; omega⟩⟩
                                        refine z_iconst (v := nI 1) X (by decide) dX9_entry_204 ?_
                                        refine z_goto (tgt := 209) X dX9_entry_205 (by decide) ?_
                                        refine z_istore X dX9_entry_209 (by decide) ?_
                                        refine z_inc1 X dX9_entry_211 rfl (by decide) ?_
                                        refine z_goto (tgt := 103) X dX9_entry_214 (by decide) ?_
                                        first | exact ih_103 (k + 1) true _ (by omega) ⟨fun _ => hY, fun _ => rfl⟩ (by omega) | exact ih_103 (k + 1) false _ (by omega) ⟨fun q => absurd q (by decide), fun q => absurd q hN⟩ (by omega)
                                · skip
                                  refine z_iconst (v := nI 1) X (by decide) dX9_entry_172 ?_
                                  refine z_goto (tgt := 177) X dX9_entry_173 (by decide) ?_
                                  refine z_istore X dX9_entry_177 (by decide) ?_
                                  refine z_iload X dX9_entry_179 rfl ?_
                                  refine z_if_eq (tgt := 208) X dX9_entry_181 (by decide) (fun c_181 => ?_) (fun c_181 => ?_)
                                  · skip
                                    try simp (disch := omega) only [zb_notn, zb_not, zb_n0, zb_0, Bool.not_eq_false, Bool.not_eq_true, Bool.not_eq_true', Bool.not_eq_false', decide_eq_true_eq, decide_eq_false_iff_not, Classical.not_not] at c_181
                                    have hN : ¬ zmay (τ 24) (τ 23) ne (nI W) a b c9 d (k + 1) := fun q => by first | exact absurd (ht.mpr ⟨q.1, fun j hj => q.2 j (by omega)⟩) (by rw [c_181]; decide) | exact (q.2 k (by omega)).1 ⟨c_122, c_137, c_153, c_169⟩ | (have q9 := (q.2 k (by omega)).2; rw [eC] at q9; omega)
                                    refine z_iconst (v := nI 0) X (by decide) dX9_entry_208 ?_
                                    refine z_istore X dX9_entry_209 (by decide) ?_
                                    refine z_inc1 X dX9_entry_211 rfl (by decide) ?_
                                    refine z_goto (tgt := 103) X dX9_entry_214 (by decide) ?_
                                    first | exact ih_103 (k + 1) true _ (by omega) ⟨fun _ => hY, fun _ => rfl⟩ (by omega) | exact ih_103 (k + 1) false _ (by omega) ⟨fun q => absurd q (by decide), fun q => absurd q hN⟩ (by omega)
                                  · skip
                                    try simp (disch := omega) only [zb_notn, zb_not, zb_n0, zb_0, Bool.not_eq_false, Bool.not_eq_true, Bool.not_eq_true', Bool.not_eq_false', decide_eq_true_eq, decide_eq_false_iff_not, Classical.not_not] at c_181
                                    refine z_iload X dX9_entry_184 rfl ?_
                                    refine z_if_ne (tgt := 208) X dX9_entry_186 (by decide) (fun c_186 => ?_) (fun c_186 => ?_)
                                    · skip
                                      have hN : ¬ zmay (τ 24) (τ 23) ne (nI W) a b c9 d (k + 1) := fun q => by first | exact absurd (ht.mpr ⟨q.1, fun j hj => q.2 j (by omega)⟩) (by rw [c_181]; decide) | exact (q.2 k (by omega)).1 ⟨c_122, c_137, c_153, c_169⟩ | (have q9 := (q.2 k (by omega)).2; rw [eC] at q9; omega)
                                      refine z_iconst (v := nI 0) X (by decide) dX9_entry_208 ?_
                                      refine z_istore X dX9_entry_209 (by decide) ?_
                                      refine z_inc1 X dX9_entry_211 rfl (by decide) ?_
                                      refine z_goto (tgt := 103) X dX9_entry_214 (by decide) ?_
                                      first | exact ih_103 (k + 1) true _ (by omega) ⟨fun _ => hY, fun _ => rfl⟩ (by omega) | exact ih_103 (k + 1) false _ (by omega) ⟨fun q => absurd q (by decide), fun q => absurd q hN⟩ (by omega)
                                    · first | exact absurd c_186 (by decide) | exact absurd (by decide) c_186
                    refine z_iconst (v := nI 0) X (by decide) dX9_entry_100 ?_
                    refine z_istore X dX9_entry_101 (by decide) ?_
                    exact loop_103 (ne - 0 + 1) 0 _ _ (Nat.zero_le _) ht0 (by omega)
                  · skip
                    try simp (disch := omega) only [zk0, nI_leI, nI_ltI, nI_eq, zbk_notn, zbk_not, zbk_n0, zbk_0, zb_0, zb_n0, zb_not, zb_notn, Bool.not_eq_false, Bool.not_eq_true, Bool.not_eq_true', Bool.not_eq_false', decide_eq_true_eq, decide_eq_false_iff_not, Classical.not_not] at c_90
                    refine z_iconst (v := nI 1) X (by decide) dX9_entry_93 ?_
                    refine z_goto (tgt := 98) X dX9_entry_94 (by decide) ?_
                    first | (have ht0 : true = true ↔ zmay (τ 24) (τ 23) ne (nI W) a b c9 d 0 := ⟨fun _ => ⟨by omega, fun j hj => absurd hj (Nat.not_lt_zero _)⟩, fun _ => rfl⟩; rw [show Value.int (nI 1) = Value.int (zb true) from rfl]) | (have ht0 : false = true ↔ zmay (τ 24) (τ 23) ne (nI W) a b c9 d 0 := ⟨fun q => absurd q (by decide), fun q => by have := q.1; omega⟩; rw [show Value.int (nI 0) = Value.int (zb false) from rfl])
                    refine z_istore X dX9_entry_98 (by decide) ?_
                    have loop_103 : ∀ (n : Nat) (k : Nat) (t : Bool) (v8 : Option Value) (hk : k ≤ ne) (ht : t = true ↔ zmay (τ 24) (τ 23) ne (nI W) a b c9 d k) (hn : ne - k < n), z_V p l e (zRm MX9_entry) s m args below meth c 9 D cy z0 0 0 (zQm MX9_entry below D cy z0 (fun v g' σ' => g' = g ∧ ∃ r, v = some (.int r) ∧ zMP (zx_entry ρ ni ne (nI W) a b c9 d) σ σ' (r = nI ne ∧ σ' = z_up (z_up (z_up (z_up (z_up (z_up (z_up σ 21 48 0) 23 ne (nI W)) 24 (4 * ne) a) 24 (4 * ne + 1) b) 24 (4 * ne + 2) c9) 24 (4 * ne + 3) d) 21 2 (nI (ne + 1)))) args s) 103 [some (.ref (g.2.1 21)), some (.int (nI W)), some (.int a), some (.int b), some (.int c9), some (.int d), some (.int (zb t)), some (.int (nI k)), v8] [] g τ := by
                      intro n
                      induction n with
                      | zero => intro k t v8 hk ht hn; exact absurd hn (Nat.not_lt_zero _)
                      | succ n ih_103 =>
                        intro k t v8 hk ht hn
                        refine z_iload X dX9_entry_103 rfl ?_
                        refine z_aload_n X dX9_entry_105 rfl ?_
                        refine z_geti X fX9_168 (zso_21 hS) rfl dX9_entry_106 ?_
                        rw [heτ]
                        refine z_icmp_ge (tgt := 217) X dX9_entry_109 (by decide) (fun c_109 => ?_) (fun c_109 => ?_)
                        · skip
                          try simp (disch := omega) only [zk0, nI_leI, nI_ltI, nI_eq, zbk_notn, zbk_not, zbk_n0, zbk_0, zb_0, zb_n0, zb_not, zb_notn, Bool.not_eq_false, Bool.not_eq_true, Bool.not_eq_true', Bool.not_eq_false', decide_eq_true_eq, decide_eq_false_iff_not, Classical.not_not] at c_109
                          have e : ne = k := by omega
                          subst e
                          refine z_iload X dX9_entry_217 rfl ?_
                          refine z_if_ne (tgt := 228) X dX9_entry_219 (by decide) (fun c_219 => ?_) (fun c_219 => ?_)
                          · skip
                            try simp (disch := omega) only [zb_notn, zb_not, zb_n0, zb_0, Bool.not_eq_false, Bool.not_eq_true, Bool.not_eq_true', Bool.not_eq_false', decide_eq_true_eq, decide_eq_false_iff_not, Classical.not_not] at c_219
                            have h40 : ne < 40 := (ht.mp c_219).1
                            refine z_aload_n X dX9_entry_228 rfl ?_
                            refine z_getr2 X fX9_13 (zso_21 hS) (zsr_21_3 hS) rfl dX9_entry_229 ?_
                            refine z_aload_n X dX9_entry_232 rfl ?_
                            refine z_geti X fX9_168 (zso_21 hS) rfl dX9_entry_233 ?_
                            rw [heτ]
                            refine z_iload_n X dX9_entry_236 rfl ?_
                            refine z_iastN X (zsa_23 hS) (by omega) (by omega) dX9_entry_237 ?_
                            refine z_aload_n X dX9_entry_238 rfl ?_
                            refine z_getr2 X fX9_16 (zso_21 hS) (zsr_21_4 hS) rfl dX9_entry_239 ?_
                            refine z_iconst (v := nI 4) X (by decide) dX9_entry_242 ?_
                            refine z_aload_n X dX9_entry_243 rfl ?_
                            refine z_geti X fX9_168 (zso_21 hS) rfl dX9_entry_244 ?_
                            repeat rw [z_up_ne (by decide)]
                            rw [heτ]
                            refine z_imulN X dX9_entry_247 ?_
                            refine z_iload_n X dX9_entry_248 rfl ?_
                            refine z_iastN X (zsa_24 hS) (by omega) (by omega) dX9_entry_249 ?_
                            refine z_aload_n X dX9_entry_250 rfl ?_
                            refine z_getr2 X fX9_16 (zso_21 hS) (zsr_21_4 hS) rfl dX9_entry_251 ?_
                            refine z_iconst (v := nI 4) X (by decide) dX9_entry_254 ?_
                            refine z_aload_n X dX9_entry_255 rfl ?_
                            refine z_geti X fX9_168 (zso_21 hS) rfl dX9_entry_256 ?_
                            repeat rw [z_up_ne (by decide)]
                            rw [heτ]
                            refine z_imulN X dX9_entry_259 ?_
                            refine z_iconst (v := nI 1) X (by decide) dX9_entry_260 ?_
                            refine z_iaddN X dX9_entry_261 ?_
                            refine z_iload_n X dX9_entry_262 rfl ?_
                            refine z_iastN X (zsa_24 hS) (by omega) (by omega) dX9_entry_263 ?_
                            refine z_aload_n X dX9_entry_264 rfl ?_
                            refine z_getr2 X fX9_16 (zso_21 hS) (zsr_21_4 hS) rfl dX9_entry_265 ?_
                            refine z_iconst (v := nI 4) X (by decide) dX9_entry_268 ?_
                            refine z_aload_n X dX9_entry_269 rfl ?_
                            refine z_geti X fX9_168 (zso_21 hS) rfl dX9_entry_270 ?_
                            repeat rw [z_up_ne (by decide)]
                            rw [heτ]
                            refine z_imulN X dX9_entry_273 ?_
                            refine z_iconst (v := nI 2) X (by decide) dX9_entry_274 ?_
                            refine z_iaddN X dX9_entry_275 ?_
                            refine z_iload X dX9_entry_276 rfl ?_
                            refine z_iastN X (zsa_24 hS) (by omega) (by omega) dX9_entry_278 ?_
                            refine z_aload_n X dX9_entry_279 rfl ?_
                            refine z_getr2 X fX9_16 (zso_21 hS) (zsr_21_4 hS) rfl dX9_entry_280 ?_
                            refine z_iconst (v := nI 4) X (by decide) dX9_entry_283 ?_
                            refine z_aload_n X dX9_entry_284 rfl ?_
                            refine z_geti X fX9_168 (zso_21 hS) rfl dX9_entry_285 ?_
                            repeat rw [z_up_ne (by decide)]
                            rw [heτ]
                            refine z_imulN X dX9_entry_288 ?_
                            refine z_iconst (v := nI 3) X (by decide) dX9_entry_289 ?_
                            refine z_iaddN X dX9_entry_290 ?_
                            refine z_iload X dX9_entry_291 rfl ?_
                            refine z_iastN X (zsa_24 hS) (by omega) (by omega) dX9_entry_293 ?_
                            refine z_aload_n X dX9_entry_294 rfl ?_
                            refine z_dup X rfl dX9_entry_295 ?_
                            refine z_geti X fX9_168 (zso_21 hS) rfl dX9_entry_296 ?_
                            repeat rw [z_up_ne (by decide)]
                            rw [heτ]
                            refine z_iconst (v := nI 1) X (by decide) dX9_entry_299 ?_
                            refine z_iaddN X dX9_entry_300 ?_
                            refine z_puti X fX9_168 (zso_21 hS) rfl dX9_entry_301 ?_
                            refine z_aload_n X dX9_entry_304 rfl ?_
                            refine z_geti X fX9_168 (zso_21 hS) rfl dX9_entry_305 ?_
                            rw [z_up_app, if_pos rfl, if_pos rfl]
                            refine z_iconst (v := nI 1) X (by decide) dX9_entry_308 ?_
                            refine z_isubN X (by omega) dX9_entry_309 ?_
                            refine z_iret X (by decide) (by decide) rfl dX9_entry_310 ?_
                            exact ⟨rfl, _, rfl, Or.inr ⟨by unfold zx_entry; rw [if_neg (fun q => q ⟨c_6, c_14, c_23, c_32⟩), if_neg (fun q => by rcases q with q | ⟨q1, q2⟩ | ⟨q1, q2⟩; exact c_52 q; (first | exact c_57 q1 | exact q2 c_63); (first | exact c_69 q1 | exact q2 c_75)), zif_f (zmay_t e4 e5 eτ (ht.mp c_219))], by congr 1, by rw [hτ]⟩⟩
                          · skip
                            try simp (disch := omega) only [zb_notn, zb_not, zb_n0, zb_0, Bool.not_eq_false, Bool.not_eq_true, Bool.not_eq_true', Bool.not_eq_false', decide_eq_true_eq, decide_eq_false_iff_not, Classical.not_not] at c_219
                            refine z_aload_n X dX9_entry_222 rfl ?_
                            refine z_iconst (v := 3) X (by decide) dX9_entry_223 ?_
                            refine z_runV X kX9_154 (tX9_fails _ hS) (zso_21 hS) rfl rfl (Nat.le_of_ble_eq_true rfl) ⟨by decide, by decide⟩ ⟨by decide, by decide⟩ dX9_entry_224 ?_
                            rintro _ g1 s1 ⟨rfl, h8, h9⟩
                            replace h8 := h8.symm
                            subst h8
                            replace h9 := h9.symm
                            subst h9
                            refine z_iret X (by decide) (by decide) rfl dX9_entry_227 ?_
                            exact ⟨rfl, _, rfl, by rw [hτ]; exact zMP_2 (j := 2) (by unfold zx_entry; rw [if_neg (fun q => q ⟨c_6, c_14, c_23, c_32⟩), if_neg (fun q => by rcases q with q | ⟨q1, q2⟩ | ⟨q1, q2⟩; exact c_52 q; (first | exact c_57 q1 | exact q2 c_63); (first | exact c_69 q1 | exact q2 c_75)), zif_t (zmay_f e4 e5 eτ (by omega) (fun q => absurd (ht.mpr q) (by rw [c_219]; decide)))]) rfl⟩
                        · skip
                          try simp (disch := omega) only [zk0, nI_leI, nI_ltI, nI_eq, zbk_notn, zbk_not, zbk_n0, zbk_0, zb_0, zb_n0, zb_not, zb_notn, Bool.not_eq_false, Bool.not_eq_true, Bool.not_eq_true', Bool.not_eq_false', decide_eq_true_eq, decide_eq_false_iff_not, Classical.not_not] at c_109
                          refine z_aload_n X dX9_entry_112 rfl ?_
                          refine z_getr2 X fX9_16 (zso_21 hS) (zsr_21_4 hS) rfl dX9_entry_113 ?_
                          refine z_iconst (v := nI 4) X (by decide) dX9_entry_116 ?_
                          refine z_iload X dX9_entry_117 rfl ?_
                          refine z_imulN X dX9_entry_119 ?_
                          refine z_ialdN X (zsa_24 hS) (by omega) (by omega) dX9_entry_120 ?_
                          refine z_iload_n X dX9_entry_121 rfl ?_
                          refine z_icmp_ne (tgt := 176) X dX9_entry_122 (by decide) (fun c_122 => ?_) (fun c_122 => ?_)
                          · skip
                            refine z_iconst (v := nI 0) X (by decide) dX9_entry_176 ?_
                            refine z_istore X dX9_entry_177 (by decide) ?_
                            refine z_iload X dX9_entry_179 rfl ?_
                            refine z_if_eq (tgt := 208) X dX9_entry_181 (by decide) (fun c_181 => ?_) (fun c_181 => ?_)
                            · skip
                              try simp (disch := omega) only [zb_notn, zb_not, zb_n0, zb_0, Bool.not_eq_false, Bool.not_eq_true, Bool.not_eq_true', Bool.not_eq_false', decide_eq_true_eq, decide_eq_false_iff_not, Classical.not_not] at c_181
                              have hN : ¬ zmay (τ 24) (τ 23) ne (nI W) a b c9 d (k + 1) := fun q => by first | exact absurd (ht.mpr ⟨q.1, fun j hj => q.2 j (by omega)⟩) (by rw [c_181]; decide) | exact (q.2 k (by omega)).1 ⟨c_122, c_137, c_153, c_169⟩ | (have q9 := (q.2 k (by omega)).2; rw [eC] at q9; omega)
                              refine z_iconst (v := nI 0) X (by decide) dX9_entry_208 ?_
                              refine z_istore X dX9_entry_209 (by decide) ?_
                              refine z_inc1 X dX9_entry_211 rfl (by decide) ?_
                              refine z_goto (tgt := 103) X dX9_entry_214 (by decide) ?_
                              first | exact ih_103 (k + 1) true _ (by omega) ⟨fun _ => hY, fun _ => rfl⟩ (by omega) | exact ih_103 (k + 1) false _ (by omega) ⟨fun q => absurd q (by decide), fun q => absurd q hN⟩ (by omega)
                            · skip
                              try simp (disch := omega) only [zb_notn, zb_not, zb_n0, zb_0, Bool.not_eq_false, Bool.not_eq_true, Bool.not_eq_true', Bool.not_eq_false', decide_eq_true_eq, decide_eq_false_iff_not, Classical.not_not] at c_181
                              refine z_iload X dX9_entry_184 rfl ?_
                              refine z_if_ne (tgt := 208) X dX9_entry_186 (by decide) (fun c_186 => ?_) (fun c_186 => ?_)
                              · first | exact absurd c_186 (by decide) | exact absurd (by decide) c_186
                              · skip
                                refine z_aload_n X dX9_entry_189 rfl ?_
                                refine z_getr2 X fX9_13 (zso_21 hS) (zsr_21_3 hS) rfl dX9_entry_190 ?_
                                refine z_iload X dX9_entry_193 rfl ?_
                                refine z_ialdN X (zsa_23 hS) (by omega) (by omega) dX9_entry_195 ?_
                                refine z_iload_n X dX9_entry_196 rfl ?_
                                obtain ⟨Ck, hCk, eC⟩ := hCτ k (by omega)
                                have hz5 := zpk_le (nI Ck) (nI W) 5
                                replace hz5 : zp (nI Ck) (nI W) ≤ 5 := hz5
                                rw [eC]
                                refine z_runS X kX9_147 (tX9_parts _ _ (by omega) (by omega)) rfl rfl (Nat.le_of_ble_eq_true rfl) ⟨by decide, by decide⟩ ⟨by decide, by decide⟩ dX9_entry_197 ?_
                                rintro _ g1 s1 ⟨rfl, h8, h9⟩
                                replace h8 := h8.symm
                                subst h8
                                replace h9 := h9.symm
                                subst h9
                                refine z_iconst (v := nI 1) X (by decide) dX9_entry_200 ?_
                                refine z_icmp_le (tgt := 208) X dX9_entry_201 (by decide) (fun c_201 => ?_) (fun c_201 => ?_)
                                · skip
                                  try simp (disch := omega) only [zk0, nI_leI, nI_ltI, nI_eq, zbk_notn, zbk_not, zbk_n0, zbk_0, zb_0, zb_n0, zb_not, zb_notn, Bool.not_eq_false, Bool.not_eq_true, Bool.not_eq_true', Bool.not_eq_false', decide_eq_true_eq, decide_eq_false_iff_not, Classical.not_not] at c_201
                                  have hN : ¬ zmay (τ 24) (τ 23) ne (nI W) a b c9 d (k + 1) := fun q => by first | exact absurd (ht.mpr ⟨q.1, fun j hj => q.2 j (by omega)⟩) (by rw [c_181]; decide) | exact (q.2 k (by omega)).1 ⟨c_122, c_137, c_153, c_169⟩ | (have q9 := (q.2 k (by omega)).2; rw [eC] at q9; omega)
                                  refine z_iconst (v := nI 0) X (by decide) dX9_entry_208 ?_
                                  refine z_istore X dX9_entry_209 (by decide) ?_
                                  refine z_inc1 X dX9_entry_211 rfl (by decide) ?_
                                  refine z_goto (tgt := 103) X dX9_entry_214 (by decide) ?_
                                  first | exact ih_103 (k + 1) true _ (by omega) ⟨fun _ => hY, fun _ => rfl⟩ (by omega) | exact ih_103 (k + 1) false _ (by omega) ⟨fun q => absurd q (by decide), fun q => absurd q hN⟩ (by omega)
                                · skip
                                  try simp (disch := omega) only [zk0, nI_leI, nI_ltI, nI_eq, zbk_notn, zbk_not, zbk_n0, zbk_0, zb_0, zb_n0, zb_not, zb_notn, Bool.not_eq_false, Bool.not_eq_true, Bool.not_eq_true', Bool.not_eq_false', decide_eq_true_eq, decide_eq_false_iff_not, Classical.not_not] at c_201
                                  have hY : zmay (τ 24) (τ 23) ne (nI W) a b c9 d (k + 1) := ⟨(ht.mp c_181).1, fun j hj => by rcases Nat.lt_or_ge j k with h | h; exact (ht.mp c_181).2 j h; (have e : j = k := by omega); subst e; exact ⟨fun q => by first | exact c_122 q.1 | exact c_137 q.2.1 | exact c_153 q.2.2.1 | exact c_169 q.2.2.2, by rw [eC]; omega⟩⟩
                                  refine z_iconst (v := nI 1) X (by decide) dX9_entry_204 ?_
                                  refine z_goto (tgt := 209) X dX9_entry_205 (by decide) ?_
                                  refine z_istore X dX9_entry_209 (by decide) ?_
                                  refine z_inc1 X dX9_entry_211 rfl (by decide) ?_
                                  refine z_goto (tgt := 103) X dX9_entry_214 (by decide) ?_
                                  first | exact ih_103 (k + 1) true _ (by omega) ⟨fun _ => hY, fun _ => rfl⟩ (by omega) | exact ih_103 (k + 1) false _ (by omega) ⟨fun q => absurd q (by decide), fun q => absurd q hN⟩ (by omega)
                          · skip
                            refine z_aload_n X dX9_entry_125 rfl ?_
                            refine z_getr2 X fX9_16 (zso_21 hS) (zsr_21_4 hS) rfl dX9_entry_126 ?_
                            refine z_iconst (v := nI 4) X (by decide) dX9_entry_129 ?_
                            refine z_iload X dX9_entry_130 rfl ?_
                            refine z_imulN X dX9_entry_132 ?_
                            refine z_iconst (v := nI 1) X (by decide) dX9_entry_133 ?_
                            refine z_iaddN X dX9_entry_134 ?_
                            refine z_ialdN X (zsa_24 hS) (by omega) (by omega) dX9_entry_135 ?_
                            refine z_iload_n X dX9_entry_136 rfl ?_
                            refine z_icmp_ne (tgt := 176) X dX9_entry_137 (by decide) (fun c_137 => ?_) (fun c_137 => ?_)
                            · skip
                              refine z_iconst (v := nI 0) X (by decide) dX9_entry_176 ?_
                              refine z_istore X dX9_entry_177 (by decide) ?_
                              refine z_iload X dX9_entry_179 rfl ?_
                              refine z_if_eq (tgt := 208) X dX9_entry_181 (by decide) (fun c_181 => ?_) (fun c_181 => ?_)
                              · skip
                                try simp (disch := omega) only [zb_notn, zb_not, zb_n0, zb_0, Bool.not_eq_false, Bool.not_eq_true, Bool.not_eq_true', Bool.not_eq_false', decide_eq_true_eq, decide_eq_false_iff_not, Classical.not_not] at c_181
                                have hN : ¬ zmay (τ 24) (τ 23) ne (nI W) a b c9 d (k + 1) := fun q => by first | exact absurd (ht.mpr ⟨q.1, fun j hj => q.2 j (by omega)⟩) (by rw [c_181]; decide) | exact (q.2 k (by omega)).1 ⟨c_122, c_137, c_153, c_169⟩ | (have q9 := (q.2 k (by omega)).2; rw [eC] at q9; omega)
                                refine z_iconst (v := nI 0) X (by decide) dX9_entry_208 ?_
                                refine z_istore X dX9_entry_209 (by decide) ?_
                                refine z_inc1 X dX9_entry_211 rfl (by decide) ?_
                                refine z_goto (tgt := 103) X dX9_entry_214 (by decide) ?_
                                first | exact ih_103 (k + 1) true _ (by omega) ⟨fun _ => hY, fun _ => rfl⟩ (by omega) | exact ih_103 (k + 1) false _ (by omega) ⟨fun q => absurd q (by decide), fun q => absurd q hN⟩ (by omega)
                              · skip
                                try simp (disch := omega) only [zb_notn, zb_not, zb_n0, zb_0, Bool.not_eq_false, Bool.not_eq_true, Bool.not_eq_true', Bool.not_eq_false', decide_eq_true_eq, decide_eq_false_iff_not, Classical.not_not] at c_181
                                refine z_iload X dX9_entry_184 rfl ?_
                                refine z_if_ne (tgt := 208) X dX9_entry_186 (by decide) (fun c_186 => ?_) (fun c_186 => ?_)
                                · first | exact absurd c_186 (by decide) | exact absurd (by decide) c_186
                                · skip
                                  refine z_aload_n X dX9_entry_189 rfl ?_
                                  refine z_getr2 X fX9_13 (zso_21 hS) (zsr_21_3 hS) rfl dX9_entry_190 ?_
                                  refine z_iload X dX9_entry_193 rfl ?_
                                  refine z_ialdN X (zsa_23 hS) (by omega) (by omega) dX9_entry_195 ?_
                                  refine z_iload_n X dX9_entry_196 rfl ?_
                                  obtain ⟨Ck, hCk, eC⟩ := hCτ k (by omega)
                                  have hz5 := zpk_le (nI Ck) (nI W) 5
                                  replace hz5 : zp (nI Ck) (nI W) ≤ 5 := hz5
                                  rw [eC]
                                  refine z_runS X kX9_147 (tX9_parts _ _ (by omega) (by omega)) rfl rfl (Nat.le_of_ble_eq_true rfl) ⟨by decide, by decide⟩ ⟨by decide, by decide⟩ dX9_entry_197 ?_
                                  rintro _ g1 s1 ⟨rfl, h8, h9⟩
                                  replace h8 := h8.symm
                                  subst h8
                                  replace h9 := h9.symm
                                  subst h9
                                  refine z_iconst (v := nI 1) X (by decide) dX9_entry_200 ?_
                                  refine z_icmp_le (tgt := 208) X dX9_entry_201 (by decide) (fun c_201 => ?_) (fun c_201 => ?_)
                                  · skip
                                    try simp (disch := omega) only [zk0, nI_leI, nI_ltI, nI_eq, zbk_notn, zbk_not, zbk_n0, zbk_0, zb_0, zb_n0, zb_not, zb_notn, Bool.not_eq_false, Bool.not_eq_true, Bool.not_eq_true', Bool.not_eq_false', decide_eq_true_eq, decide_eq_false_iff_not, Classical.not_not] at c_201
                                    have hN : ¬ zmay (τ 24) (τ 23) ne (nI W) a b c9 d (k + 1) := fun q => by first | exact absurd (ht.mpr ⟨q.1, fun j hj => q.2 j (by omega)⟩) (by rw [c_181]; decide) | exact (q.2 k (by omega)).1 ⟨c_122, c_137, c_153, c_169⟩ | (have q9 := (q.2 k (by omega)).2; rw [eC] at q9; omega)
                                    refine z_iconst (v := nI 0) X (by decide) dX9_entry_208 ?_
                                    refine z_istore X dX9_entry_209 (by decide) ?_
                                    refine z_inc1 X dX9_entry_211 rfl (by decide) ?_
                                    refine z_goto (tgt := 103) X dX9_entry_214 (by decide) ?_
                                    first | exact ih_103 (k + 1) true _ (by omega) ⟨fun _ => hY, fun _ => rfl⟩ (by omega) | exact ih_103 (k + 1) false _ (by omega) ⟨fun q => absurd q (by decide), fun q => absurd q hN⟩ (by omega)
                                  · skip
                                    try simp (disch := omega) only [zk0, nI_leI, nI_ltI, nI_eq, zbk_notn, zbk_not, zbk_n0, zbk_0, zb_0, zb_n0, zb_not, zb_notn, Bool.not_eq_false, Bool.not_eq_true, Bool.not_eq_true', Bool.not_eq_false', decide_eq_true_eq, decide_eq_false_iff_not, Classical.not_not] at c_201
                                    have hY : zmay (τ 24) (τ 23) ne (nI W) a b c9 d (k + 1) := ⟨(ht.mp c_181).1, fun j hj => by rcases Nat.lt_or_ge j k with h | h; exact (ht.mp c_181).2 j h; (have e : j = k := by omega); subst e; exact ⟨fun q => by first | exact c_122 q.1 | exact c_137 q.2.1 | exact c_153 q.2.2.1 | exact c_169 q.2.2.2, by rw [eC]; omega⟩⟩
                                    refine z_iconst (v := nI 1) X (by decide) dX9_entry_204 ?_
                                    refine z_goto (tgt := 209) X dX9_entry_205 (by decide) ?_
                                    refine z_istore X dX9_entry_209 (by decide) ?_
                                    refine z_inc1 X dX9_entry_211 rfl (by decide) ?_
                                    refine z_goto (tgt := 103) X dX9_entry_214 (by decide) ?_
                                    first | exact ih_103 (k + 1) true _ (by omega) ⟨fun _ => hY, fun _ => rfl⟩ (by omega) | exact ih_103 (k + 1) false _ (by omega) ⟨fun q => absurd q (by decide), fun q => absurd q hN⟩ (by omega)
                            · skip
                              refine z_aload_n X dX9_entry_140 rfl ?_
                              refine z_getr2 X fX9_16 (zso_21 hS) (zsr_21_4 hS) rfl dX9_entry_141 ?_
                              refine z_iconst (v := nI 4) X (by decide) dX9_entry_144 ?_
                              refine z_iload X dX9_entry_145 rfl ?_
                              refine z_imulN X dX9_entry_147 ?_
                              refine z_iconst (v := nI 2) X (by decide) dX9_entry_148 ?_
                              refine z_iaddN X dX9_entry_149 ?_
                              refine z_ialdN X (zsa_24 hS) (by omega) (by omega) dX9_entry_150 ?_
                              refine z_iload X dX9_entry_151 rfl ?_
                              refine z_icmp_ne (tgt := 176) X dX9_entry_153 (by decide) (fun c_153 => ?_) (fun c_153 => ?_)
                              · skip
                                refine z_iconst (v := nI 0) X (by decide) dX9_entry_176 ?_
                                refine z_istore X dX9_entry_177 (by decide) ?_
                                refine z_iload X dX9_entry_179 rfl ?_
                                refine z_if_eq (tgt := 208) X dX9_entry_181 (by decide) (fun c_181 => ?_) (fun c_181 => ?_)
                                · skip
                                  try simp (disch := omega) only [zb_notn, zb_not, zb_n0, zb_0, Bool.not_eq_false, Bool.not_eq_true, Bool.not_eq_true', Bool.not_eq_false', decide_eq_true_eq, decide_eq_false_iff_not, Classical.not_not] at c_181
                                  have hN : ¬ zmay (τ 24) (τ 23) ne (nI W) a b c9 d (k + 1) := fun q => by first | exact absurd (ht.mpr ⟨q.1, fun j hj => q.2 j (by omega)⟩) (by rw [c_181]; decide) | exact (q.2 k (by omega)).1 ⟨c_122, c_137, c_153, c_169⟩ | (have q9 := (q.2 k (by omega)).2; rw [eC] at q9; omega)
                                  refine z_iconst (v := nI 0) X (by decide) dX9_entry_208 ?_
                                  refine z_istore X dX9_entry_209 (by decide) ?_
                                  refine z_inc1 X dX9_entry_211 rfl (by decide) ?_
                                  refine z_goto (tgt := 103) X dX9_entry_214 (by decide) ?_
                                  first | exact ih_103 (k + 1) true _ (by omega) ⟨fun _ => hY, fun _ => rfl⟩ (by omega) | exact ih_103 (k + 1) false _ (by omega) ⟨fun q => absurd q (by decide), fun q => absurd q hN⟩ (by omega)
                                · skip
                                  try simp (disch := omega) only [zb_notn, zb_not, zb_n0, zb_0, Bool.not_eq_false, Bool.not_eq_true, Bool.not_eq_true', Bool.not_eq_false', decide_eq_true_eq, decide_eq_false_iff_not, Classical.not_not] at c_181
                                  refine z_iload X dX9_entry_184 rfl ?_
                                  refine z_if_ne (tgt := 208) X dX9_entry_186 (by decide) (fun c_186 => ?_) (fun c_186 => ?_)
                                  · first | exact absurd c_186 (by decide) | exact absurd (by decide) c_186
                                  · skip
                                    refine z_aload_n X dX9_entry_189 rfl ?_
                                    refine z_getr2 X fX9_13 (zso_21 hS) (zsr_21_3 hS) rfl dX9_entry_190 ?_
                                    refine z_iload X dX9_entry_193 rfl ?_
                                    refine z_ialdN X (zsa_23 hS) (by omega) (by omega) dX9_entry_195 ?_
                                    refine z_iload_n X dX9_entry_196 rfl ?_
                                    obtain ⟨Ck, hCk, eC⟩ := hCτ k (by omega)
                                    have hz5 := zpk_le (nI Ck) (nI W) 5
                                    replace hz5 : zp (nI Ck) (nI W) ≤ 5 := hz5
                                    rw [eC]
                                    refine z_runS X kX9_147 (tX9_parts _ _ (by omega) (by omega)) rfl rfl (Nat.le_of_ble_eq_true rfl) ⟨by decide, by decide⟩ ⟨by decide, by decide⟩ dX9_entry_197 ?_
                                    rintro _ g1 s1 ⟨rfl, h8, h9⟩
                                    replace h8 := h8.symm
                                    subst h8
                                    replace h9 := h9.symm
                                    subst h9
                                    refine z_iconst (v := nI 1) X (by decide) dX9_entry_200 ?_
                                    refine z_icmp_le (tgt := 208) X dX9_entry_201 (by decide) (fun c_201 => ?_) (fun c_201 => ?_)
                                    · skip
                                      try simp (disch := omega) only [zk0, nI_leI, nI_ltI, nI_eq, zbk_notn, zbk_not, zbk_n0, zbk_0, zb_0, zb_n0, zb_not, zb_notn, Bool.not_eq_false, Bool.not_eq_true, Bool.not_eq_true', Bool.not_eq_false', decide_eq_true_eq, decide_eq_false_iff_not, Classical.not_not] at c_201
                                      have hN : ¬ zmay (τ 24) (τ 23) ne (nI W) a b c9 d (k + 1) := fun q => by first | exact absurd (ht.mpr ⟨q.1, fun j hj => q.2 j (by omega)⟩) (by rw [c_181]; decide) | exact (q.2 k (by omega)).1 ⟨c_122, c_137, c_153, c_169⟩ | (have q9 := (q.2 k (by omega)).2; rw [eC] at q9; omega)
                                      refine z_iconst (v := nI 0) X (by decide) dX9_entry_208 ?_
                                      refine z_istore X dX9_entry_209 (by decide) ?_
                                      refine z_inc1 X dX9_entry_211 rfl (by decide) ?_
                                      refine z_goto (tgt := 103) X dX9_entry_214 (by decide) ?_
                                      first | exact ih_103 (k + 1) true _ (by omega) ⟨fun _ => hY, fun _ => rfl⟩ (by omega) | exact ih_103 (k + 1) false _ (by omega) ⟨fun q => absurd q (by decide), fun q => absurd q hN⟩ (by omega)
                                    · skip
                                      try simp (disch := omega) only [zk0, nI_leI, nI_ltI, nI_eq, zbk_notn, zbk_not, zbk_n0, zbk_0, zb_0, zb_n0, zb_not, zb_notn, Bool.not_eq_false, Bool.not_eq_true, Bool.not_eq_true', Bool.not_eq_false', decide_eq_true_eq, decide_eq_false_iff_not, Classical.not_not] at c_201
                                      have hY : zmay (τ 24) (τ 23) ne (nI W) a b c9 d (k + 1) := ⟨(ht.mp c_181).1, fun j hj => by rcases Nat.lt_or_ge j k with h | h; exact (ht.mp c_181).2 j h; (have e : j = k := by omega); subst e; exact ⟨fun q => by first | exact c_122 q.1 | exact c_137 q.2.1 | exact c_153 q.2.2.1 | exact c_169 q.2.2.2, by rw [eC]; omega⟩⟩
                                      refine z_iconst (v := nI 1) X (by decide) dX9_entry_204 ?_
                                      refine z_goto (tgt := 209) X dX9_entry_205 (by decide) ?_
                                      refine z_istore X dX9_entry_209 (by decide) ?_
                                      refine z_inc1 X dX9_entry_211 rfl (by decide) ?_
                                      refine z_goto (tgt := 103) X dX9_entry_214 (by decide) ?_
                                      first | exact ih_103 (k + 1) true _ (by omega) ⟨fun _ => hY, fun _ => rfl⟩ (by omega) | exact ih_103 (k + 1) false _ (by omega) ⟨fun q => absurd q (by decide), fun q => absurd q hN⟩ (by omega)
                              · skip
                                refine z_aload_n X dX9_entry_156 rfl ?_
                                refine z_getr2 X fX9_16 (zso_21 hS) (zsr_21_4 hS) rfl dX9_entry_157 ?_
                                refine z_iconst (v := nI 4) X (by decide) dX9_entry_160 ?_
                                refine z_iload X dX9_entry_161 rfl ?_
                                refine z_imulN X dX9_entry_163 ?_
                                refine z_iconst (v := nI 3) X (by decide) dX9_entry_164 ?_
                                refine z_iaddN X dX9_entry_165 ?_
                                refine z_ialdN X (zsa_24 hS) (by omega) (by omega) dX9_entry_166 ?_
                                refine z_iload X dX9_entry_167 rfl ?_
                                refine z_icmp_ne (tgt := 176) X dX9_entry_169 (by decide) (fun c_169 => ?_) (fun c_169 => ?_)
                                · skip
                                  refine z_iconst (v := nI 0) X (by decide) dX9_entry_176 ?_
                                  refine z_istore X dX9_entry_177 (by decide) ?_
                                  refine z_iload X dX9_entry_179 rfl ?_
                                  refine z_if_eq (tgt := 208) X dX9_entry_181 (by decide) (fun c_181 => ?_) (fun c_181 => ?_)
                                  · skip
                                    try simp (disch := omega) only [zb_notn, zb_not, zb_n0, zb_0, Bool.not_eq_false, Bool.not_eq_true, Bool.not_eq_true', Bool.not_eq_false', decide_eq_true_eq, decide_eq_false_iff_not, Classical.not_not] at c_181
                                    have hN : ¬ zmay (τ 24) (τ 23) ne (nI W) a b c9 d (k + 1) := fun q => by first | exact absurd (ht.mpr ⟨q.1, fun j hj => q.2 j (by omega)⟩) (by rw [c_181]; decide) | exact (q.2 k (by omega)).1 ⟨c_122, c_137, c_153, c_169⟩ | (have q9 := (q.2 k (by omega)).2; rw [eC] at q9; omega)
                                    refine z_iconst (v := nI 0) X (by decide) dX9_entry_208 ?_
                                    refine z_istore X dX9_entry_209 (by decide) ?_
                                    refine z_inc1 X dX9_entry_211 rfl (by decide) ?_
                                    refine z_goto (tgt := 103) X dX9_entry_214 (by decide) ?_
                                    first | exact ih_103 (k + 1) true _ (by omega) ⟨fun _ => hY, fun _ => rfl⟩ (by omega) | exact ih_103 (k + 1) false _ (by omega) ⟨fun q => absurd q (by decide), fun q => absurd q hN⟩ (by omega)
                                  · skip
                                    try simp (disch := omega) only [zb_notn, zb_not, zb_n0, zb_0, Bool.not_eq_false, Bool.not_eq_true, Bool.not_eq_true', Bool.not_eq_false', decide_eq_true_eq, decide_eq_false_iff_not, Classical.not_not] at c_181
                                    refine z_iload X dX9_entry_184 rfl ?_
                                    refine z_if_ne (tgt := 208) X dX9_entry_186 (by decide) (fun c_186 => ?_) (fun c_186 => ?_)
                                    · first | exact absurd c_186 (by decide) | exact absurd (by decide) c_186
                                    · skip
                                      refine z_aload_n X dX9_entry_189 rfl ?_
                                      refine z_getr2 X fX9_13 (zso_21 hS) (zsr_21_3 hS) rfl dX9_entry_190 ?_
                                      refine z_iload X dX9_entry_193 rfl ?_
                                      refine z_ialdN X (zsa_23 hS) (by omega) (by omega) dX9_entry_195 ?_
                                      refine z_iload_n X dX9_entry_196 rfl ?_
                                      obtain ⟨Ck, hCk, eC⟩ := hCτ k (by omega)
                                      have hz5 := zpk_le (nI Ck) (nI W) 5
                                      replace hz5 : zp (nI Ck) (nI W) ≤ 5 := hz5
                                      rw [eC]
                                      refine z_runS X kX9_147 (tX9_parts _ _ (by omega) (by omega)) rfl rfl (Nat.le_of_ble_eq_true rfl) ⟨by decide, by decide⟩ ⟨by decide, by decide⟩ dX9_entry_197 ?_
                                      rintro _ g1 s1 ⟨rfl, h8, h9⟩
                                      replace h8 := h8.symm
                                      subst h8
                                      replace h9 := h9.symm
                                      subst h9
                                      refine z_iconst (v := nI 1) X (by decide) dX9_entry_200 ?_
                                      refine z_icmp_le (tgt := 208) X dX9_entry_201 (by decide) (fun c_201 => ?_) (fun c_201 => ?_)
                                      · skip
                                        try simp (disch := omega) only [zk0, nI_leI, nI_ltI, nI_eq, zbk_notn, zbk_not, zbk_n0, zbk_0, zb_0, zb_n0, zb_not, zb_notn, Bool.not_eq_false, Bool.not_eq_true, Bool.not_eq_true', Bool.not_eq_false', decide_eq_true_eq, decide_eq_false_iff_not, Classical.not_not] at c_201
                                        have hN : ¬ zmay (τ 24) (τ 23) ne (nI W) a b c9 d (k + 1) := fun q => by first | exact absurd (ht.mpr ⟨q.1, fun j hj => q.2 j (by omega)⟩) (by rw [c_181]; decide) | exact (q.2 k (by omega)).1 ⟨c_122, c_137, c_153, c_169⟩ | (have q9 := (q.2 k (by omega)).2; rw [eC] at q9; omega)
                                        refine z_iconst (v := nI 0) X (by decide) dX9_entry_208 ?_
                                        refine z_istore X dX9_entry_209 (by decide) ?_
                                        refine z_inc1 X dX9_entry_211 rfl (by decide) ?_
                                        refine z_goto (tgt := 103) X dX9_entry_214 (by decide) ?_
                                        first | exact ih_103 (k + 1) true _ (by omega) ⟨fun _ => hY, fun _ => rfl⟩ (by omega) | exact ih_103 (k + 1) false _ (by omega) ⟨fun q => absurd q (by decide), fun q => absurd q hN⟩ (by omega)
                                      · skip
                                        try simp (disch := omega) only [zk0, nI_leI, nI_ltI, nI_eq, zbk_notn, zbk_not, zbk_n0, zbk_0, zb_0, zb_n0, zb_not, zb_notn, Bool.not_eq_false, Bool.not_eq_true, Bool.not_eq_true', Bool.not_eq_false', decide_eq_true_eq, decide_eq_false_iff_not, Classical.not_not] at c_201
                                        have hY : zmay (τ 24) (τ 23) ne (nI W) a b c9 d (k + 1) := ⟨(ht.mp c_181).1, fun j hj => by rcases Nat.lt_or_ge j k with h | h; exact (ht.mp c_181).2 j h; (have e : j = k := by omega); subst e; exact ⟨fun q => by first | exact c_122 q.1 | exact c_137 q.2.1 | exact c_153 q.2.2.1 | exact c_169 q.2.2.2, by rw [eC]; omega⟩⟩
                                        refine z_iconst (v := nI 1) X (by decide) dX9_entry_204 ?_
                                        refine z_goto (tgt := 209) X dX9_entry_205 (by decide) ?_
                                        refine z_istore X dX9_entry_209 (by decide) ?_
                                        refine z_inc1 X dX9_entry_211 rfl (by decide) ?_
                                        refine z_goto (tgt := 103) X dX9_entry_214 (by decide) ?_
                                        first | exact ih_103 (k + 1) true _ (by omega) ⟨fun _ => hY, fun _ => rfl⟩ (by omega) | exact ih_103 (k + 1) false _ (by omega) ⟨fun q => absurd q (by decide), fun q => absurd q hN⟩ (by omega)
                                · skip
                                  refine z_iconst (v := nI 1) X (by decide) dX9_entry_172 ?_
                                  refine z_goto (tgt := 177) X dX9_entry_173 (by decide) ?_
                                  refine z_istore X dX9_entry_177 (by decide) ?_
                                  refine z_iload X dX9_entry_179 rfl ?_
                                  refine z_if_eq (tgt := 208) X dX9_entry_181 (by decide) (fun c_181 => ?_) (fun c_181 => ?_)
                                  · skip
                                    try simp (disch := omega) only [zb_notn, zb_not, zb_n0, zb_0, Bool.not_eq_false, Bool.not_eq_true, Bool.not_eq_true', Bool.not_eq_false', decide_eq_true_eq, decide_eq_false_iff_not, Classical.not_not] at c_181
                                    have hN : ¬ zmay (τ 24) (τ 23) ne (nI W) a b c9 d (k + 1) := fun q => by first | exact absurd (ht.mpr ⟨q.1, fun j hj => q.2 j (by omega)⟩) (by rw [c_181]; decide) | exact (q.2 k (by omega)).1 ⟨c_122, c_137, c_153, c_169⟩ | (have q9 := (q.2 k (by omega)).2; rw [eC] at q9; omega)
                                    refine z_iconst (v := nI 0) X (by decide) dX9_entry_208 ?_
                                    refine z_istore X dX9_entry_209 (by decide) ?_
                                    refine z_inc1 X dX9_entry_211 rfl (by decide) ?_
                                    refine z_goto (tgt := 103) X dX9_entry_214 (by decide) ?_
                                    first | exact ih_103 (k + 1) true _ (by omega) ⟨fun _ => hY, fun _ => rfl⟩ (by omega) | exact ih_103 (k + 1) false _ (by omega) ⟨fun q => absurd q (by decide), fun q => absurd q hN⟩ (by omega)
                                  · skip
                                    try simp (disch := omega) only [zb_notn, zb_not, zb_n0, zb_0, Bool.not_eq_false, Bool.not_eq_true, Bool.not_eq_true', Bool.not_eq_false', decide_eq_true_eq, decide_eq_false_iff_not, Classical.not_not] at c_181
                                    refine z_iload X dX9_entry_184 rfl ?_
                                    refine z_if_ne (tgt := 208) X dX9_entry_186 (by decide) (fun c_186 => ?_) (fun c_186 => ?_)
                                    · skip
                                      have hN : ¬ zmay (τ 24) (τ 23) ne (nI W) a b c9 d (k + 1) := fun q => by first | exact absurd (ht.mpr ⟨q.1, fun j hj => q.2 j (by omega)⟩) (by rw [c_181]; decide) | exact (q.2 k (by omega)).1 ⟨c_122, c_137, c_153, c_169⟩ | (have q9 := (q.2 k (by omega)).2; rw [eC] at q9; omega)
                                      refine z_iconst (v := nI 0) X (by decide) dX9_entry_208 ?_
                                      refine z_istore X dX9_entry_209 (by decide) ?_
                                      refine z_inc1 X dX9_entry_211 rfl (by decide) ?_
                                      refine z_goto (tgt := 103) X dX9_entry_214 (by decide) ?_
                                      first | exact ih_103 (k + 1) true _ (by omega) ⟨fun _ => hY, fun _ => rfl⟩ (by omega) | exact ih_103 (k + 1) false _ (by omega) ⟨fun q => absurd q (by decide), fun q => absurd q hN⟩ (by omega)
                                    · first | exact absurd c_186 (by decide) | exact absurd (by decide) c_186
                    refine z_iconst (v := nI 0) X (by decide) dX9_entry_100 ?_
                    refine z_istore X dX9_entry_101 (by decide) ?_
                    exact loop_103 (ne - 0 + 1) 0 _ _ (Nat.zero_le _) ht0 (by omega)
                · skip
                  refine z_iload X dX9_entry_72 rfl ?_
                  refine z_iconst (v := -1) X (by decide) dX9_entry_74 ?_
                  refine z_icmp_eq (tgt := 84) X dX9_entry_75 (by decide) (fun c_75 => ?_) (fun c_75 => ?_)
                  · skip
                    obtain ⟨W, hW, rfl⟩ := zwd_of c_52
                    refine z_aload_n X dX9_entry_84 rfl ?_
                    refine z_geti X fX9_168 (zso_21 hS) rfl dX9_entry_85 ?_
                    rw [heτ]
                    refine z_bipush (v := nI 40) X (by decide) dX9_entry_88 ?_
                    refine z_icmp_ge (tgt := 97) X dX9_entry_90 (by decide) (fun c_90 => ?_) (fun c_90 => ?_)
                    · skip
                      try simp (disch := omega) only [zk0, nI_leI, nI_ltI, nI_eq, zbk_notn, zbk_not, zbk_n0, zbk_0, zb_0, zb_n0, zb_not, zb_notn, Bool.not_eq_false, Bool.not_eq_true, Bool.not_eq_true', Bool.not_eq_false', decide_eq_true_eq, decide_eq_false_iff_not, Classical.not_not] at c_90
                      refine z_iconst (v := nI 0) X (by decide) dX9_entry_97 ?_
                      first | (have ht0 : true = true ↔ zmay (τ 24) (τ 23) ne (nI W) a b c9 d 0 := ⟨fun _ => ⟨by omega, fun j hj => absurd hj (Nat.not_lt_zero _)⟩, fun _ => rfl⟩; rw [show Value.int (nI 1) = Value.int (zb true) from rfl]) | (have ht0 : false = true ↔ zmay (τ 24) (τ 23) ne (nI W) a b c9 d 0 := ⟨fun q => absurd q (by decide), fun q => by have := q.1; omega⟩; rw [show Value.int (nI 0) = Value.int (zb false) from rfl])
                      refine z_istore X dX9_entry_98 (by decide) ?_
                      have loop_103 : ∀ (n : Nat) (k : Nat) (t : Bool) (v8 : Option Value) (hk : k ≤ ne) (ht : t = true ↔ zmay (τ 24) (τ 23) ne (nI W) a b c9 d k) (hn : ne - k < n), z_V p l e (zRm MX9_entry) s m args below meth c 9 D cy z0 0 0 (zQm MX9_entry below D cy z0 (fun v g' σ' => g' = g ∧ ∃ r, v = some (.int r) ∧ zMP (zx_entry ρ ni ne (nI W) a b c9 d) σ σ' (r = nI ne ∧ σ' = z_up (z_up (z_up (z_up (z_up (z_up (z_up σ 21 48 0) 23 ne (nI W)) 24 (4 * ne) a) 24 (4 * ne + 1) b) 24 (4 * ne + 2) c9) 24 (4 * ne + 3) d) 21 2 (nI (ne + 1)))) args s) 103 [some (.ref (g.2.1 21)), some (.int (nI W)), some (.int a), some (.int b), some (.int c9), some (.int d), some (.int (zb t)), some (.int (nI k)), v8] [] g τ := by
                        intro n
                        induction n with
                        | zero => intro k t v8 hk ht hn; exact absurd hn (Nat.not_lt_zero _)
                        | succ n ih_103 =>
                          intro k t v8 hk ht hn
                          refine z_iload X dX9_entry_103 rfl ?_
                          refine z_aload_n X dX9_entry_105 rfl ?_
                          refine z_geti X fX9_168 (zso_21 hS) rfl dX9_entry_106 ?_
                          rw [heτ]
                          refine z_icmp_ge (tgt := 217) X dX9_entry_109 (by decide) (fun c_109 => ?_) (fun c_109 => ?_)
                          · skip
                            try simp (disch := omega) only [zk0, nI_leI, nI_ltI, nI_eq, zbk_notn, zbk_not, zbk_n0, zbk_0, zb_0, zb_n0, zb_not, zb_notn, Bool.not_eq_false, Bool.not_eq_true, Bool.not_eq_true', Bool.not_eq_false', decide_eq_true_eq, decide_eq_false_iff_not, Classical.not_not] at c_109
                            have e : ne = k := by omega
                            subst e
                            refine z_iload X dX9_entry_217 rfl ?_
                            refine z_if_ne (tgt := 228) X dX9_entry_219 (by decide) (fun c_219 => ?_) (fun c_219 => ?_)
                            · skip
                              try simp (disch := omega) only [zb_notn, zb_not, zb_n0, zb_0, Bool.not_eq_false, Bool.not_eq_true, Bool.not_eq_true', Bool.not_eq_false', decide_eq_true_eq, decide_eq_false_iff_not, Classical.not_not] at c_219
                              have h40 : ne < 40 := (ht.mp c_219).1
                              refine z_aload_n X dX9_entry_228 rfl ?_
                              refine z_getr2 X fX9_13 (zso_21 hS) (zsr_21_3 hS) rfl dX9_entry_229 ?_
                              refine z_aload_n X dX9_entry_232 rfl ?_
                              refine z_geti X fX9_168 (zso_21 hS) rfl dX9_entry_233 ?_
                              rw [heτ]
                              refine z_iload_n X dX9_entry_236 rfl ?_
                              refine z_iastN X (zsa_23 hS) (by omega) (by omega) dX9_entry_237 ?_
                              refine z_aload_n X dX9_entry_238 rfl ?_
                              refine z_getr2 X fX9_16 (zso_21 hS) (zsr_21_4 hS) rfl dX9_entry_239 ?_
                              refine z_iconst (v := nI 4) X (by decide) dX9_entry_242 ?_
                              refine z_aload_n X dX9_entry_243 rfl ?_
                              refine z_geti X fX9_168 (zso_21 hS) rfl dX9_entry_244 ?_
                              repeat rw [z_up_ne (by decide)]
                              rw [heτ]
                              refine z_imulN X dX9_entry_247 ?_
                              refine z_iload_n X dX9_entry_248 rfl ?_
                              refine z_iastN X (zsa_24 hS) (by omega) (by omega) dX9_entry_249 ?_
                              refine z_aload_n X dX9_entry_250 rfl ?_
                              refine z_getr2 X fX9_16 (zso_21 hS) (zsr_21_4 hS) rfl dX9_entry_251 ?_
                              refine z_iconst (v := nI 4) X (by decide) dX9_entry_254 ?_
                              refine z_aload_n X dX9_entry_255 rfl ?_
                              refine z_geti X fX9_168 (zso_21 hS) rfl dX9_entry_256 ?_
                              repeat rw [z_up_ne (by decide)]
                              rw [heτ]
                              refine z_imulN X dX9_entry_259 ?_
                              refine z_iconst (v := nI 1) X (by decide) dX9_entry_260 ?_
                              refine z_iaddN X dX9_entry_261 ?_
                              refine z_iload_n X dX9_entry_262 rfl ?_
                              refine z_iastN X (zsa_24 hS) (by omega) (by omega) dX9_entry_263 ?_
                              refine z_aload_n X dX9_entry_264 rfl ?_
                              refine z_getr2 X fX9_16 (zso_21 hS) (zsr_21_4 hS) rfl dX9_entry_265 ?_
                              refine z_iconst (v := nI 4) X (by decide) dX9_entry_268 ?_
                              refine z_aload_n X dX9_entry_269 rfl ?_
                              refine z_geti X fX9_168 (zso_21 hS) rfl dX9_entry_270 ?_
                              repeat rw [z_up_ne (by decide)]
                              rw [heτ]
                              refine z_imulN X dX9_entry_273 ?_
                              refine z_iconst (v := nI 2) X (by decide) dX9_entry_274 ?_
                              refine z_iaddN X dX9_entry_275 ?_
                              refine z_iload X dX9_entry_276 rfl ?_
                              refine z_iastN X (zsa_24 hS) (by omega) (by omega) dX9_entry_278 ?_
                              refine z_aload_n X dX9_entry_279 rfl ?_
                              refine z_getr2 X fX9_16 (zso_21 hS) (zsr_21_4 hS) rfl dX9_entry_280 ?_
                              refine z_iconst (v := nI 4) X (by decide) dX9_entry_283 ?_
                              refine z_aload_n X dX9_entry_284 rfl ?_
                              refine z_geti X fX9_168 (zso_21 hS) rfl dX9_entry_285 ?_
                              repeat rw [z_up_ne (by decide)]
                              rw [heτ]
                              refine z_imulN X dX9_entry_288 ?_
                              refine z_iconst (v := nI 3) X (by decide) dX9_entry_289 ?_
                              refine z_iaddN X dX9_entry_290 ?_
                              refine z_iload X dX9_entry_291 rfl ?_
                              refine z_iastN X (zsa_24 hS) (by omega) (by omega) dX9_entry_293 ?_
                              refine z_aload_n X dX9_entry_294 rfl ?_
                              refine z_dup X rfl dX9_entry_295 ?_
                              refine z_geti X fX9_168 (zso_21 hS) rfl dX9_entry_296 ?_
                              repeat rw [z_up_ne (by decide)]
                              rw [heτ]
                              refine z_iconst (v := nI 1) X (by decide) dX9_entry_299 ?_
                              refine z_iaddN X dX9_entry_300 ?_
                              refine z_puti X fX9_168 (zso_21 hS) rfl dX9_entry_301 ?_
                              refine z_aload_n X dX9_entry_304 rfl ?_
                              refine z_geti X fX9_168 (zso_21 hS) rfl dX9_entry_305 ?_
                              rw [z_up_app, if_pos rfl, if_pos rfl]
                              refine z_iconst (v := nI 1) X (by decide) dX9_entry_308 ?_
                              refine z_isubN X (by omega) dX9_entry_309 ?_
                              refine z_iret X (by decide) (by decide) rfl dX9_entry_310 ?_
                              exact ⟨rfl, _, rfl, Or.inr ⟨by unfold zx_entry; rw [if_neg (fun q => q ⟨c_6, c_14, c_23, c_32⟩), if_neg (fun q => by rcases q with q | ⟨q1, q2⟩ | ⟨q1, q2⟩; exact c_52 q; (first | exact c_57 q1 | exact q2 c_63); (first | exact c_69 q1 | exact q2 c_75)), zif_f (zmay_t e4 e5 eτ (ht.mp c_219))], by congr 1, by rw [hτ]⟩⟩
                            · skip
                              try simp (disch := omega) only [zb_notn, zb_not, zb_n0, zb_0, Bool.not_eq_false, Bool.not_eq_true, Bool.not_eq_true', Bool.not_eq_false', decide_eq_true_eq, decide_eq_false_iff_not, Classical.not_not] at c_219
                              refine z_aload_n X dX9_entry_222 rfl ?_
                              refine z_iconst (v := 3) X (by decide) dX9_entry_223 ?_
                              refine z_runV X kX9_154 (tX9_fails _ hS) (zso_21 hS) rfl rfl (Nat.le_of_ble_eq_true rfl) ⟨by decide, by decide⟩ ⟨by decide, by decide⟩ dX9_entry_224 ?_
                              rintro _ g1 s1 ⟨rfl, h8, h9⟩
                              replace h8 := h8.symm
                              subst h8
                              replace h9 := h9.symm
                              subst h9
                              refine z_iret X (by decide) (by decide) rfl dX9_entry_227 ?_
                              exact ⟨rfl, _, rfl, by rw [hτ]; exact zMP_2 (j := 2) (by unfold zx_entry; rw [if_neg (fun q => q ⟨c_6, c_14, c_23, c_32⟩), if_neg (fun q => by rcases q with q | ⟨q1, q2⟩ | ⟨q1, q2⟩; exact c_52 q; (first | exact c_57 q1 | exact q2 c_63); (first | exact c_69 q1 | exact q2 c_75)), zif_t (zmay_f e4 e5 eτ (by omega) (fun q => absurd (ht.mpr q) (by rw [c_219]; decide)))]) rfl⟩
                          · skip
                            try simp (disch := omega) only [zk0, nI_leI, nI_ltI, nI_eq, zbk_notn, zbk_not, zbk_n0, zbk_0, zb_0, zb_n0, zb_not, zb_notn, Bool.not_eq_false, Bool.not_eq_true, Bool.not_eq_true', Bool.not_eq_false', decide_eq_true_eq, decide_eq_false_iff_not, Classical.not_not] at c_109
                            refine z_aload_n X dX9_entry_112 rfl ?_
                            refine z_getr2 X fX9_16 (zso_21 hS) (zsr_21_4 hS) rfl dX9_entry_113 ?_
                            refine z_iconst (v := nI 4) X (by decide) dX9_entry_116 ?_
                            refine z_iload X dX9_entry_117 rfl ?_
                            refine z_imulN X dX9_entry_119 ?_
                            refine z_ialdN X (zsa_24 hS) (by omega) (by omega) dX9_entry_120 ?_
                            refine z_iload_n X dX9_entry_121 rfl ?_
                            refine z_icmp_ne (tgt := 176) X dX9_entry_122 (by decide) (fun c_122 => ?_) (fun c_122 => ?_)
                            · skip
                              refine z_iconst (v := nI 0) X (by decide) dX9_entry_176 ?_
                              refine z_istore X dX9_entry_177 (by decide) ?_
                              refine z_iload X dX9_entry_179 rfl ?_
                              refine z_if_eq (tgt := 208) X dX9_entry_181 (by decide) (fun c_181 => ?_) (fun c_181 => ?_)
                              · skip
                                try simp (disch := omega) only [zb_notn, zb_not, zb_n0, zb_0, Bool.not_eq_false, Bool.not_eq_true, Bool.not_eq_true', Bool.not_eq_false', decide_eq_true_eq, decide_eq_false_iff_not, Classical.not_not] at c_181
                                have hN : ¬ zmay (τ 24) (τ 23) ne (nI W) a b c9 d (k + 1) := fun q => by first | exact absurd (ht.mpr ⟨q.1, fun j hj => q.2 j (by omega)⟩) (by rw [c_181]; decide) | exact (q.2 k (by omega)).1 ⟨c_122, c_137, c_153, c_169⟩ | (have q9 := (q.2 k (by omega)).2; rw [eC] at q9; omega)
                                refine z_iconst (v := nI 0) X (by decide) dX9_entry_208 ?_
                                refine z_istore X dX9_entry_209 (by decide) ?_
                                refine z_inc1 X dX9_entry_211 rfl (by decide) ?_
                                refine z_goto (tgt := 103) X dX9_entry_214 (by decide) ?_
                                first | exact ih_103 (k + 1) true _ (by omega) ⟨fun _ => hY, fun _ => rfl⟩ (by omega) | exact ih_103 (k + 1) false _ (by omega) ⟨fun q => absurd q (by decide), fun q => absurd q hN⟩ (by omega)
                              · skip
                                try simp (disch := omega) only [zb_notn, zb_not, zb_n0, zb_0, Bool.not_eq_false, Bool.not_eq_true, Bool.not_eq_true', Bool.not_eq_false', decide_eq_true_eq, decide_eq_false_iff_not, Classical.not_not] at c_181
                                refine z_iload X dX9_entry_184 rfl ?_
                                refine z_if_ne (tgt := 208) X dX9_entry_186 (by decide) (fun c_186 => ?_) (fun c_186 => ?_)
                                · first | exact absurd c_186 (by decide) | exact absurd (by decide) c_186
                                · skip
                                  refine z_aload_n X dX9_entry_189 rfl ?_
                                  refine z_getr2 X fX9_13 (zso_21 hS) (zsr_21_3 hS) rfl dX9_entry_190 ?_
                                  refine z_iload X dX9_entry_193 rfl ?_
                                  refine z_ialdN X (zsa_23 hS) (by omega) (by omega) dX9_entry_195 ?_
                                  refine z_iload_n X dX9_entry_196 rfl ?_
                                  obtain ⟨Ck, hCk, eC⟩ := hCτ k (by omega)
                                  have hz5 := zpk_le (nI Ck) (nI W) 5
                                  replace hz5 : zp (nI Ck) (nI W) ≤ 5 := hz5
                                  rw [eC]
                                  refine z_runS X kX9_147 (tX9_parts _ _ (by omega) (by omega)) rfl rfl (Nat.le_of_ble_eq_true rfl) ⟨by decide, by decide⟩ ⟨by decide, by decide⟩ dX9_entry_197 ?_
                                  rintro _ g1 s1 ⟨rfl, h8, h9⟩
                                  replace h8 := h8.symm
                                  subst h8
                                  replace h9 := h9.symm
                                  subst h9
                                  refine z_iconst (v := nI 1) X (by decide) dX9_entry_200 ?_
                                  refine z_icmp_le (tgt := 208) X dX9_entry_201 (by decide) (fun c_201 => ?_) (fun c_201 => ?_)
                                  · skip
                                    try simp (disch := omega) only [zk0, nI_leI, nI_ltI, nI_eq, zbk_notn, zbk_not, zbk_n0, zbk_0, zb_0, zb_n0, zb_not, zb_notn, Bool.not_eq_false, Bool.not_eq_true, Bool.not_eq_true', Bool.not_eq_false', decide_eq_true_eq, decide_eq_false_iff_not, Classical.not_not] at c_201
                                    have hN : ¬ zmay (τ 24) (τ 23) ne (nI W) a b c9 d (k + 1) := fun q => by first | exact absurd (ht.mpr ⟨q.1, fun j hj => q.2 j (by omega)⟩) (by rw [c_181]; decide) | exact (q.2 k (by omega)).1 ⟨c_122, c_137, c_153, c_169⟩ | (have q9 := (q.2 k (by omega)).2; rw [eC] at q9; omega)
                                    refine z_iconst (v := nI 0) X (by decide) dX9_entry_208 ?_
                                    refine z_istore X dX9_entry_209 (by decide) ?_
                                    refine z_inc1 X dX9_entry_211 rfl (by decide) ?_
                                    refine z_goto (tgt := 103) X dX9_entry_214 (by decide) ?_
                                    first | exact ih_103 (k + 1) true _ (by omega) ⟨fun _ => hY, fun _ => rfl⟩ (by omega) | exact ih_103 (k + 1) false _ (by omega) ⟨fun q => absurd q (by decide), fun q => absurd q hN⟩ (by omega)
                                  · skip
                                    try simp (disch := omega) only [zk0, nI_leI, nI_ltI, nI_eq, zbk_notn, zbk_not, zbk_n0, zbk_0, zb_0, zb_n0, zb_not, zb_notn, Bool.not_eq_false, Bool.not_eq_true, Bool.not_eq_true', Bool.not_eq_false', decide_eq_true_eq, decide_eq_false_iff_not, Classical.not_not] at c_201
                                    have hY : zmay (τ 24) (τ 23) ne (nI W) a b c9 d (k + 1) := ⟨(ht.mp c_181).1, fun j hj => by rcases Nat.lt_or_ge j k with h | h; exact (ht.mp c_181).2 j h; (have e : j = k := by omega); subst e; exact ⟨fun q => by first | exact c_122 q.1 | exact c_137 q.2.1 | exact c_153 q.2.2.1 | exact c_169 q.2.2.2, by rw [eC]; omega⟩⟩
                                    refine z_iconst (v := nI 1) X (by decide) dX9_entry_204 ?_
                                    refine z_goto (tgt := 209) X dX9_entry_205 (by decide) ?_
                                    refine z_istore X dX9_entry_209 (by decide) ?_
                                    refine z_inc1 X dX9_entry_211 rfl (by decide) ?_
                                    refine z_goto (tgt := 103) X dX9_entry_214 (by decide) ?_
                                    first | exact ih_103 (k + 1) true _ (by omega) ⟨fun _ => hY, fun _ => rfl⟩ (by omega) | exact ih_103 (k + 1) false _ (by omega) ⟨fun q => absurd q (by decide), fun q => absurd q hN⟩ (by omega)
                            · skip
                              refine z_aload_n X dX9_entry_125 rfl ?_
                              refine z_getr2 X fX9_16 (zso_21 hS) (zsr_21_4 hS) rfl dX9_entry_126 ?_
                              refine z_iconst (v := nI 4) X (by decide) dX9_entry_129 ?_
                              refine z_iload X dX9_entry_130 rfl ?_
                              refine z_imulN X dX9_entry_132 ?_
                              refine z_iconst (v := nI 1) X (by decide) dX9_entry_133 ?_
                              refine z_iaddN X dX9_entry_134 ?_
                              refine z_ialdN X (zsa_24 hS) (by omega) (by omega) dX9_entry_135 ?_
                              refine z_iload_n X dX9_entry_136 rfl ?_
                              refine z_icmp_ne (tgt := 176) X dX9_entry_137 (by decide) (fun c_137 => ?_) (fun c_137 => ?_)
                              · skip
                                refine z_iconst (v := nI 0) X (by decide) dX9_entry_176 ?_
                                refine z_istore X dX9_entry_177 (by decide) ?_
                                refine z_iload X dX9_entry_179 rfl ?_
                                refine z_if_eq (tgt := 208) X dX9_entry_181 (by decide) (fun c_181 => ?_) (fun c_181 => ?_)
                                · skip
                                  try simp (disch := omega) only [zb_notn, zb_not, zb_n0, zb_0, Bool.not_eq_false, Bool.not_eq_true, Bool.not_eq_true', Bool.not_eq_false', decide_eq_true_eq, decide_eq_false_iff_not, Classical.not_not] at c_181
                                  have hN : ¬ zmay (τ 24) (τ 23) ne (nI W) a b c9 d (k + 1) := fun q => by first | exact absurd (ht.mpr ⟨q.1, fun j hj => q.2 j (by omega)⟩) (by rw [c_181]; decide) | exact (q.2 k (by omega)).1 ⟨c_122, c_137, c_153, c_169⟩ | (have q9 := (q.2 k (by omega)).2; rw [eC] at q9; omega)
                                  refine z_iconst (v := nI 0) X (by decide) dX9_entry_208 ?_
                                  refine z_istore X dX9_entry_209 (by decide) ?_
                                  refine z_inc1 X dX9_entry_211 rfl (by decide) ?_
                                  refine z_goto (tgt := 103) X dX9_entry_214 (by decide) ?_
                                  first | exact ih_103 (k + 1) true _ (by omega) ⟨fun _ => hY, fun _ => rfl⟩ (by omega) | exact ih_103 (k + 1) false _ (by omega) ⟨fun q => absurd q (by decide), fun q => absurd q hN⟩ (by omega)
                                · skip
                                  try simp (disch := omega) only [zb_notn, zb_not, zb_n0, zb_0, Bool.not_eq_false, Bool.not_eq_true, Bool.not_eq_true', Bool.not_eq_false', decide_eq_true_eq, decide_eq_false_iff_not, Classical.not_not] at c_181
                                  refine z_iload X dX9_entry_184 rfl ?_
                                  refine z_if_ne (tgt := 208) X dX9_entry_186 (by decide) (fun c_186 => ?_) (fun c_186 => ?_)
                                  · first | exact absurd c_186 (by decide) | exact absurd (by decide) c_186
                                  · skip
                                    refine z_aload_n X dX9_entry_189 rfl ?_
                                    refine z_getr2 X fX9_13 (zso_21 hS) (zsr_21_3 hS) rfl dX9_entry_190 ?_
                                    refine z_iload X dX9_entry_193 rfl ?_
                                    refine z_ialdN X (zsa_23 hS) (by omega) (by omega) dX9_entry_195 ?_
                                    refine z_iload_n X dX9_entry_196 rfl ?_
                                    obtain ⟨Ck, hCk, eC⟩ := hCτ k (by omega)
                                    have hz5 := zpk_le (nI Ck) (nI W) 5
                                    replace hz5 : zp (nI Ck) (nI W) ≤ 5 := hz5
                                    rw [eC]
                                    refine z_runS X kX9_147 (tX9_parts _ _ (by omega) (by omega)) rfl rfl (Nat.le_of_ble_eq_true rfl) ⟨by decide, by decide⟩ ⟨by decide, by decide⟩ dX9_entry_197 ?_
                                    rintro _ g1 s1 ⟨rfl, h8, h9⟩
                                    replace h8 := h8.symm
                                    subst h8
                                    replace h9 := h9.symm
                                    subst h9
                                    refine z_iconst (v := nI 1) X (by decide) dX9_entry_200 ?_
                                    refine z_icmp_le (tgt := 208) X dX9_entry_201 (by decide) (fun c_201 => ?_) (fun c_201 => ?_)
                                    · skip
                                      try simp (disch := omega) only [zk0, nI_leI, nI_ltI, nI_eq, zbk_notn, zbk_not, zbk_n0, zbk_0, zb_0, zb_n0, zb_not, zb_notn, Bool.not_eq_false, Bool.not_eq_true, Bool.not_eq_true', Bool.not_eq_false', decide_eq_true_eq, decide_eq_false_iff_not, Classical.not_not] at c_201
                                      have hN : ¬ zmay (τ 24) (τ 23) ne (nI W) a b c9 d (k + 1) := fun q => by first | exact absurd (ht.mpr ⟨q.1, fun j hj => q.2 j (by omega)⟩) (by rw [c_181]; decide) | exact (q.2 k (by omega)).1 ⟨c_122, c_137, c_153, c_169⟩ | (have q9 := (q.2 k (by omega)).2; rw [eC] at q9; omega)
                                      refine z_iconst (v := nI 0) X (by decide) dX9_entry_208 ?_
                                      refine z_istore X dX9_entry_209 (by decide) ?_
                                      refine z_inc1 X dX9_entry_211 rfl (by decide) ?_
                                      refine z_goto (tgt := 103) X dX9_entry_214 (by decide) ?_
                                      first | exact ih_103 (k + 1) true _ (by omega) ⟨fun _ => hY, fun _ => rfl⟩ (by omega) | exact ih_103 (k + 1) false _ (by omega) ⟨fun q => absurd q (by decide), fun q => absurd q hN⟩ (by omega)
                                    · skip
                                      try simp (disch := omega) only [zk0, nI_leI, nI_ltI, nI_eq, zbk_notn, zbk_not, zbk_n0, zbk_0, zb_0, zb_n0, zb_not, zb_notn, Bool.not_eq_false, Bool.not_eq_true, Bool.not_eq_true', Bool.not_eq_false', decide_eq_true_eq, decide_eq_false_iff_not, Classical.not_not] at c_201
                                      have hY : zmay (τ 24) (τ 23) ne (nI W) a b c9 d (k + 1) := ⟨(ht.mp c_181).1, fun j hj => by rcases Nat.lt_or_ge j k with h | h; exact (ht.mp c_181).2 j h; (have e : j = k := by omega); subst e; exact ⟨fun q => by first | exact c_122 q.1 | exact c_137 q.2.1 | exact c_153 q.2.2.1 | exact c_169 q.2.2.2, by rw [eC]; omega⟩⟩
                                      refine z_iconst (v := nI 1) X (by decide) dX9_entry_204 ?_
                                      refine z_goto (tgt := 209) X dX9_entry_205 (by decide) ?_
                                      refine z_istore X dX9_entry_209 (by decide) ?_
                                      refine z_inc1 X dX9_entry_211 rfl (by decide) ?_
                                      refine z_goto (tgt := 103) X dX9_entry_214 (by decide) ?_
                                      first | exact ih_103 (k + 1) true _ (by omega) ⟨fun _ => hY, fun _ => rfl⟩ (by omega) | exact ih_103 (k + 1) false _ (by omega) ⟨fun q => absurd q (by decide), fun q => absurd q hN⟩ (by omega)
                              · skip
                                refine z_aload_n X dX9_entry_140 rfl ?_
                                refine z_getr2 X fX9_16 (zso_21 hS) (zsr_21_4 hS) rfl dX9_entry_141 ?_
                                refine z_iconst (v := nI 4) X (by decide) dX9_entry_144 ?_
                                refine z_iload X dX9_entry_145 rfl ?_
                                refine z_imulN X dX9_entry_147 ?_
                                refine z_iconst (v := nI 2) X (by decide) dX9_entry_148 ?_
                                refine z_iaddN X dX9_entry_149 ?_
                                refine z_ialdN X (zsa_24 hS) (by omega) (by omega) dX9_entry_150 ?_
                                refine z_iload X dX9_entry_151 rfl ?_
                                refine z_icmp_ne (tgt := 176) X dX9_entry_153 (by decide) (fun c_153 => ?_) (fun c_153 => ?_)
                                · skip
                                  refine z_iconst (v := nI 0) X (by decide) dX9_entry_176 ?_
                                  refine z_istore X dX9_entry_177 (by decide) ?_
                                  refine z_iload X dX9_entry_179 rfl ?_
                                  refine z_if_eq (tgt := 208) X dX9_entry_181 (by decide) (fun c_181 => ?_) (fun c_181 => ?_)
                                  · skip
                                    try simp (disch := omega) only [zb_notn, zb_not, zb_n0, zb_0, Bool.not_eq_false, Bool.not_eq_true, Bool.not_eq_true', Bool.not_eq_false', decide_eq_true_eq, decide_eq_false_iff_not, Classical.not_not] at c_181
                                    have hN : ¬ zmay (τ 24) (τ 23) ne (nI W) a b c9 d (k + 1) := fun q => by first | exact absurd (ht.mpr ⟨q.1, fun j hj => q.2 j (by omega)⟩) (by rw [c_181]; decide) | exact (q.2 k (by omega)).1 ⟨c_122, c_137, c_153, c_169⟩ | (have q9 := (q.2 k (by omega)).2; rw [eC] at q9; omega)
                                    refine z_iconst (v := nI 0) X (by decide) dX9_entry_208 ?_
                                    refine z_istore X dX9_entry_209 (by decide) ?_
                                    refine z_inc1 X dX9_entry_211 rfl (by decide) ?_
                                    refine z_goto (tgt := 103) X dX9_entry_214 (by decide) ?_
                                    first | exact ih_103 (k + 1) true _ (by omega) ⟨fun _ => hY, fun _ => rfl⟩ (by omega) | exact ih_103 (k + 1) false _ (by omega) ⟨fun q => absurd q (by decide), fun q => absurd q hN⟩ (by omega)
                                  · skip
                                    try simp (disch := omega) only [zb_notn, zb_not, zb_n0, zb_0, Bool.not_eq_false, Bool.not_eq_true, Bool.not_eq_true', Bool.not_eq_false', decide_eq_true_eq, decide_eq_false_iff_not, Classical.not_not] at c_181
                                    refine z_iload X dX9_entry_184 rfl ?_
                                    refine z_if_ne (tgt := 208) X dX9_entry_186 (by decide) (fun c_186 => ?_) (fun c_186 => ?_)
                                    · first | exact absurd c_186 (by decide) | exact absurd (by decide) c_186
                                    · skip
                                      refine z_aload_n X dX9_entry_189 rfl ?_
                                      refine z_getr2 X fX9_13 (zso_21 hS) (zsr_21_3 hS) rfl dX9_entry_190 ?_
                                      refine z_iload X dX9_entry_193 rfl ?_
                                      refine z_ialdN X (zsa_23 hS) (by omega) (by omega) dX9_entry_195 ?_
                                      refine z_iload_n X dX9_entry_196 rfl ?_
                                      obtain ⟨Ck, hCk, eC⟩ := hCτ k (by omega)
                                      have hz5 := zpk_le (nI Ck) (nI W) 5
                                      replace hz5 : zp (nI Ck) (nI W) ≤ 5 := hz5
                                      rw [eC]
                                      refine z_runS X kX9_147 (tX9_parts _ _ (by omega) (by omega)) rfl rfl (Nat.le_of_ble_eq_true rfl) ⟨by decide, by decide⟩ ⟨by decide, by decide⟩ dX9_entry_197 ?_
                                      rintro _ g1 s1 ⟨rfl, h8, h9⟩
                                      replace h8 := h8.symm
                                      subst h8
                                      replace h9 := h9.symm
                                      subst h9
                                      refine z_iconst (v := nI 1) X (by decide) dX9_entry_200 ?_
                                      refine z_icmp_le (tgt := 208) X dX9_entry_201 (by decide) (fun c_201 => ?_) (fun c_201 => ?_)
                                      · skip
                                        try simp (disch := omega) only [zk0, nI_leI, nI_ltI, nI_eq, zbk_notn, zbk_not, zbk_n0, zbk_0, zb_0, zb_n0, zb_not, zb_notn, Bool.not_eq_false, Bool.not_eq_true, Bool.not_eq_true', Bool.not_eq_false', decide_eq_true_eq, decide_eq_false_iff_not, Classical.not_not] at c_201
                                        have hN : ¬ zmay (τ 24) (τ 23) ne (nI W) a b c9 d (k + 1) := fun q => by first | exact absurd (ht.mpr ⟨q.1, fun j hj => q.2 j (by omega)⟩) (by rw [c_181]; decide) | exact (q.2 k (by omega)).1 ⟨c_122, c_137, c_153, c_169⟩ | (have q9 := (q.2 k (by omega)).2; rw [eC] at q9; omega)
                                        refine z_iconst (v := nI 0) X (by decide) dX9_entry_208 ?_
                                        refine z_istore X dX9_entry_209 (by decide) ?_
                                        refine z_inc1 X dX9_entry_211 rfl (by decide) ?_
                                        refine z_goto (tgt := 103) X dX9_entry_214 (by decide) ?_
                                        first | exact ih_103 (k + 1) true _ (by omega) ⟨fun _ => hY, fun _ => rfl⟩ (by omega) | exact ih_103 (k + 1) false _ (by omega) ⟨fun q => absurd q (by decide), fun q => absurd q hN⟩ (by omega)
                                      · skip
                                        try simp (disch := omega) only [zk0, nI_leI, nI_ltI, nI_eq, zbk_notn, zbk_not, zbk_n0, zbk_0, zb_0, zb_n0, zb_not, zb_notn, Bool.not_eq_false, Bool.not_eq_true, Bool.not_eq_true', Bool.not_eq_false', decide_eq_true_eq, decide_eq_false_iff_not, Classical.not_not] at c_201
                                        have hY : zmay (τ 24) (τ 23) ne (nI W) a b c9 d (k + 1) := ⟨(ht.mp c_181).1, fun j hj => by rcases Nat.lt_or_ge j k with h | h; exact (ht.mp c_181).2 j h; (have e : j = k := by omega); subst e; exact ⟨fun q => by first | exact c_122 q.1 | exact c_137 q.2.1 | exact c_153 q.2.2.1 | exact c_169 q.2.2.2, by rw [eC]; omega⟩⟩
                                        refine z_iconst (v := nI 1) X (by decide) dX9_entry_204 ?_
                                        refine z_goto (tgt := 209) X dX9_entry_205 (by decide) ?_
                                        refine z_istore X dX9_entry_209 (by decide) ?_
                                        refine z_inc1 X dX9_entry_211 rfl (by decide) ?_
                                        refine z_goto (tgt := 103) X dX9_entry_214 (by decide) ?_
                                        first | exact ih_103 (k + 1) true _ (by omega) ⟨fun _ => hY, fun _ => rfl⟩ (by omega) | exact ih_103 (k + 1) false _ (by omega) ⟨fun q => absurd q (by decide), fun q => absurd q hN⟩ (by omega)
                                · skip
                                  refine z_aload_n X dX9_entry_156 rfl ?_
                                  refine z_getr2 X fX9_16 (zso_21 hS) (zsr_21_4 hS) rfl dX9_entry_157 ?_
                                  refine z_iconst (v := nI 4) X (by decide) dX9_entry_160 ?_
                                  refine z_iload X dX9_entry_161 rfl ?_
                                  refine z_imulN X dX9_entry_163 ?_
                                  refine z_iconst (v := nI 3) X (by decide) dX9_entry_164 ?_
                                  refine z_iaddN X dX9_entry_165 ?_
                                  refine z_ialdN X (zsa_24 hS) (by omega) (by omega) dX9_entry_166 ?_
                                  refine z_iload X dX9_entry_167 rfl ?_
                                  refine z_icmp_ne (tgt := 176) X dX9_entry_169 (by decide) (fun c_169 => ?_) (fun c_169 => ?_)
                                  · skip
                                    refine z_iconst (v := nI 0) X (by decide) dX9_entry_176 ?_
                                    refine z_istore X dX9_entry_177 (by decide) ?_
                                    refine z_iload X dX9_entry_179 rfl ?_
                                    refine z_if_eq (tgt := 208) X dX9_entry_181 (by decide) (fun c_181 => ?_) (fun c_181 => ?_)
                                    · skip
                                      try simp (disch := omega) only [zb_notn, zb_not, zb_n0, zb_0, Bool.not_eq_false, Bool.not_eq_true, Bool.not_eq_true', Bool.not_eq_false', decide_eq_true_eq, decide_eq_false_iff_not, Classical.not_not] at c_181
                                      have hN : ¬ zmay (τ 24) (τ 23) ne (nI W) a b c9 d (k + 1) := fun q => by first | exact absurd (ht.mpr ⟨q.1, fun j hj => q.2 j (by omega)⟩) (by rw [c_181]; decide) | exact (q.2 k (by omega)).1 ⟨c_122, c_137, c_153, c_169⟩ | (have q9 := (q.2 k (by omega)).2; rw [eC] at q9; omega)
                                      refine z_iconst (v := nI 0) X (by decide) dX9_entry_208 ?_
                                      refine z_istore X dX9_entry_209 (by decide) ?_
                                      refine z_inc1 X dX9_entry_211 rfl (by decide) ?_
                                      refine z_goto (tgt := 103) X dX9_entry_214 (by decide) ?_
                                      first | exact ih_103 (k + 1) true _ (by omega) ⟨fun _ => hY, fun _ => rfl⟩ (by omega) | exact ih_103 (k + 1) false _ (by omega) ⟨fun q => absurd q (by decide), fun q => absurd q hN⟩ (by omega)
                                    · skip
                                      try simp (disch := omega) only [zb_notn, zb_not, zb_n0, zb_0, Bool.not_eq_false, Bool.not_eq_true, Bool.not_eq_true', Bool.not_eq_false', decide_eq_true_eq, decide_eq_false_iff_not, Classical.not_not] at c_181
                                      refine z_iload X dX9_entry_184 rfl ?_
                                      refine z_if_ne (tgt := 208) X dX9_entry_186 (by decide) (fun c_186 => ?_) (fun c_186 => ?_)
                                      · first | exact absurd c_186 (by decide) | exact absurd (by decide) c_186
                                      · skip
                                        refine z_aload_n X dX9_entry_189 rfl ?_
                                        refine z_getr2 X fX9_13 (zso_21 hS) (zsr_21_3 hS) rfl dX9_entry_190 ?_
                                        refine z_iload X dX9_entry_193 rfl ?_
                                        refine z_ialdN X (zsa_23 hS) (by omega) (by omega) dX9_entry_195 ?_
                                        refine z_iload_n X dX9_entry_196 rfl ?_
                                        obtain ⟨Ck, hCk, eC⟩ := hCτ k (by omega)
                                        have hz5 := zpk_le (nI Ck) (nI W) 5
                                        replace hz5 : zp (nI Ck) (nI W) ≤ 5 := hz5
                                        rw [eC]
                                        refine z_runS X kX9_147 (tX9_parts _ _ (by omega) (by omega)) rfl rfl (Nat.le_of_ble_eq_true rfl) ⟨by decide, by decide⟩ ⟨by decide, by decide⟩ dX9_entry_197 ?_
                                        rintro _ g1 s1 ⟨rfl, h8, h9⟩
                                        replace h8 := h8.symm
                                        subst h8
                                        replace h9 := h9.symm
                                        subst h9
                                        refine z_iconst (v := nI 1) X (by decide) dX9_entry_200 ?_
                                        refine z_icmp_le (tgt := 208) X dX9_entry_201 (by decide) (fun c_201 => ?_) (fun c_201 => ?_)
                                        · skip
                                          try simp (disch := omega) only [zk0, nI_leI, nI_ltI, nI_eq, zbk_notn, zbk_not, zbk_n0, zbk_0, zb_0, zb_n0, zb_not, zb_notn, Bool.not_eq_false, Bool.not_eq_true, Bool.not_eq_true', Bool.not_eq_false', decide_eq_true_eq, decide_eq_false_iff_not, Classical.not_not] at c_201
                                          have hN : ¬ zmay (τ 24) (τ 23) ne (nI W) a b c9 d (k + 1) := fun q => by first | exact absurd (ht.mpr ⟨q.1, fun j hj => q.2 j (by omega)⟩) (by rw [c_181]; decide) | exact (q.2 k (by omega)).1 ⟨c_122, c_137, c_153, c_169⟩ | (have q9 := (q.2 k (by omega)).2; rw [eC] at q9; omega)
                                          refine z_iconst (v := nI 0) X (by decide) dX9_entry_208 ?_
                                          refine z_istore X dX9_entry_209 (by decide) ?_
                                          refine z_inc1 X dX9_entry_211 rfl (by decide) ?_
                                          refine z_goto (tgt := 103) X dX9_entry_214 (by decide) ?_
                                          first | exact ih_103 (k + 1) true _ (by omega) ⟨fun _ => hY, fun _ => rfl⟩ (by omega) | exact ih_103 (k + 1) false _ (by omega) ⟨fun q => absurd q (by decide), fun q => absurd q hN⟩ (by omega)
                                        · skip
                                          try simp (disch := omega) only [zk0, nI_leI, nI_ltI, nI_eq, zbk_notn, zbk_not, zbk_n0, zbk_0, zb_0, zb_n0, zb_not, zb_notn, Bool.not_eq_false, Bool.not_eq_true, Bool.not_eq_true', Bool.not_eq_false', decide_eq_true_eq, decide_eq_false_iff_not, Classical.not_not] at c_201
                                          have hY : zmay (τ 24) (τ 23) ne (nI W) a b c9 d (k + 1) := ⟨(ht.mp c_181).1, fun j hj => by rcases Nat.lt_or_ge j k with h | h; exact (ht.mp c_181).2 j h; (have e : j = k := by omega); subst e; exact ⟨fun q => by first | exact c_122 q.1 | exact c_137 q.2.1 | exact c_153 q.2.2.1 | exact c_169 q.2.2.2, by rw [eC]; omega⟩⟩
                                          refine z_iconst (v := nI 1) X (by decide) dX9_entry_204 ?_
                                          refine z_goto (tgt := 209) X dX9_entry_205 (by decide) ?_
                                          refine z_istore X dX9_entry_209 (by decide) ?_
                                          refine z_inc1 X dX9_entry_211 rfl (by decide) ?_
                                          refine z_goto (tgt := 103) X dX9_entry_214 (by decide) ?_
                                          first | exact ih_103 (k + 1) true _ (by omega) ⟨fun _ => hY, fun _ => rfl⟩ (by omega) | exact ih_103 (k + 1) false _ (by omega) ⟨fun q => absurd q (by decide), fun q => absurd q hN⟩ (by omega)
                                  · skip
                                    refine z_iconst (v := nI 1) X (by decide) dX9_entry_172 ?_
                                    refine z_goto (tgt := 177) X dX9_entry_173 (by decide) ?_
                                    refine z_istore X dX9_entry_177 (by decide) ?_
                                    refine z_iload X dX9_entry_179 rfl ?_
                                    refine z_if_eq (tgt := 208) X dX9_entry_181 (by decide) (fun c_181 => ?_) (fun c_181 => ?_)
                                    · skip
                                      try simp (disch := omega) only [zb_notn, zb_not, zb_n0, zb_0, Bool.not_eq_false, Bool.not_eq_true, Bool.not_eq_true', Bool.not_eq_false', decide_eq_true_eq, decide_eq_false_iff_not, Classical.not_not] at c_181
                                      have hN : ¬ zmay (τ 24) (τ 23) ne (nI W) a b c9 d (k + 1) := fun q => by first | exact absurd (ht.mpr ⟨q.1, fun j hj => q.2 j (by omega)⟩) (by rw [c_181]; decide) | exact (q.2 k (by omega)).1 ⟨c_122, c_137, c_153, c_169⟩ | (have q9 := (q.2 k (by omega)).2; rw [eC] at q9; omega)
                                      refine z_iconst (v := nI 0) X (by decide) dX9_entry_208 ?_
                                      refine z_istore X dX9_entry_209 (by decide) ?_
                                      refine z_inc1 X dX9_entry_211 rfl (by decide) ?_
                                      refine z_goto (tgt := 103) X dX9_entry_214 (by decide) ?_
                                      first | exact ih_103 (k + 1) true _ (by omega) ⟨fun _ => hY, fun _ => rfl⟩ (by omega) | exact ih_103 (k + 1) false _ (by omega) ⟨fun q => absurd q (by decide), fun q => absurd q hN⟩ (by omega)
                                    · skip
                                      try simp (disch := omega) only [zb_notn, zb_not, zb_n0, zb_0, Bool.not_eq_false, Bool.not_eq_true, Bool.not_eq_true', Bool.not_eq_false', decide_eq_true_eq, decide_eq_false_iff_not, Classical.not_not] at c_181
                                      refine z_iload X dX9_entry_184 rfl ?_
                                      refine z_if_ne (tgt := 208) X dX9_entry_186 (by decide) (fun c_186 => ?_) (fun c_186 => ?_)
                                      · skip
                                        have hN : ¬ zmay (τ 24) (τ 23) ne (nI W) a b c9 d (k + 1) := fun q => by first | exact absurd (ht.mpr ⟨q.1, fun j hj => q.2 j (by omega)⟩) (by rw [c_181]; decide) | exact (q.2 k (by omega)).1 ⟨c_122, c_137, c_153, c_169⟩ | (have q9 := (q.2 k (by omega)).2; rw [eC] at q9; omega)
                                        refine z_iconst (v := nI 0) X (by decide) dX9_entry_208 ?_
                                        refine z_istore X dX9_entry_209 (by decide) ?_
                                        refine z_inc1 X dX9_entry_211 rfl (by decide) ?_
                                        refine z_goto (tgt := 103) X dX9_entry_214 (by decide) ?_
                                        first | exact ih_103 (k + 1) true _ (by omega) ⟨fun _ => hY, fun _ => rfl⟩ (by omega) | exact ih_103 (k + 1) false _ (by omega) ⟨fun q => absurd q (by decide), fun q => absurd q hN⟩ (by omega)
                                      · first | exact absurd c_186 (by decide) | exact absurd (by decide) c_186
                      refine z_iconst (v := nI 0) X (by decide) dX9_entry_100 ?_
                      refine z_istore X dX9_entry_101 (by decide) ?_
                      exact loop_103 (ne - 0 + 1) 0 _ _ (Nat.zero_le _) ht0 (by omega)
                    · skip
                      try simp (disch := omega) only [zk0, nI_leI, nI_ltI, nI_eq, zbk_notn, zbk_not, zbk_n0, zbk_0, zb_0, zb_n0, zb_not, zb_notn, Bool.not_eq_false, Bool.not_eq_true, Bool.not_eq_true', Bool.not_eq_false', decide_eq_true_eq, decide_eq_false_iff_not, Classical.not_not] at c_90
                      refine z_iconst (v := nI 1) X (by decide) dX9_entry_93 ?_
                      refine z_goto (tgt := 98) X dX9_entry_94 (by decide) ?_
                      first | (have ht0 : true = true ↔ zmay (τ 24) (τ 23) ne (nI W) a b c9 d 0 := ⟨fun _ => ⟨by omega, fun j hj => absurd hj (Nat.not_lt_zero _)⟩, fun _ => rfl⟩; rw [show Value.int (nI 1) = Value.int (zb true) from rfl]) | (have ht0 : false = true ↔ zmay (τ 24) (τ 23) ne (nI W) a b c9 d 0 := ⟨fun q => absurd q (by decide), fun q => by have := q.1; omega⟩; rw [show Value.int (nI 0) = Value.int (zb false) from rfl])
                      refine z_istore X dX9_entry_98 (by decide) ?_
                      have loop_103 : ∀ (n : Nat) (k : Nat) (t : Bool) (v8 : Option Value) (hk : k ≤ ne) (ht : t = true ↔ zmay (τ 24) (τ 23) ne (nI W) a b c9 d k) (hn : ne - k < n), z_V p l e (zRm MX9_entry) s m args below meth c 9 D cy z0 0 0 (zQm MX9_entry below D cy z0 (fun v g' σ' => g' = g ∧ ∃ r, v = some (.int r) ∧ zMP (zx_entry ρ ni ne (nI W) a b c9 d) σ σ' (r = nI ne ∧ σ' = z_up (z_up (z_up (z_up (z_up (z_up (z_up σ 21 48 0) 23 ne (nI W)) 24 (4 * ne) a) 24 (4 * ne + 1) b) 24 (4 * ne + 2) c9) 24 (4 * ne + 3) d) 21 2 (nI (ne + 1)))) args s) 103 [some (.ref (g.2.1 21)), some (.int (nI W)), some (.int a), some (.int b), some (.int c9), some (.int d), some (.int (zb t)), some (.int (nI k)), v8] [] g τ := by
                        intro n
                        induction n with
                        | zero => intro k t v8 hk ht hn; exact absurd hn (Nat.not_lt_zero _)
                        | succ n ih_103 =>
                          intro k t v8 hk ht hn
                          refine z_iload X dX9_entry_103 rfl ?_
                          refine z_aload_n X dX9_entry_105 rfl ?_
                          refine z_geti X fX9_168 (zso_21 hS) rfl dX9_entry_106 ?_
                          rw [heτ]
                          refine z_icmp_ge (tgt := 217) X dX9_entry_109 (by decide) (fun c_109 => ?_) (fun c_109 => ?_)
                          · skip
                            try simp (disch := omega) only [zk0, nI_leI, nI_ltI, nI_eq, zbk_notn, zbk_not, zbk_n0, zbk_0, zb_0, zb_n0, zb_not, zb_notn, Bool.not_eq_false, Bool.not_eq_true, Bool.not_eq_true', Bool.not_eq_false', decide_eq_true_eq, decide_eq_false_iff_not, Classical.not_not] at c_109
                            have e : ne = k := by omega
                            subst e
                            refine z_iload X dX9_entry_217 rfl ?_
                            refine z_if_ne (tgt := 228) X dX9_entry_219 (by decide) (fun c_219 => ?_) (fun c_219 => ?_)
                            · skip
                              try simp (disch := omega) only [zb_notn, zb_not, zb_n0, zb_0, Bool.not_eq_false, Bool.not_eq_true, Bool.not_eq_true', Bool.not_eq_false', decide_eq_true_eq, decide_eq_false_iff_not, Classical.not_not] at c_219
                              have h40 : ne < 40 := (ht.mp c_219).1
                              refine z_aload_n X dX9_entry_228 rfl ?_
                              refine z_getr2 X fX9_13 (zso_21 hS) (zsr_21_3 hS) rfl dX9_entry_229 ?_
                              refine z_aload_n X dX9_entry_232 rfl ?_
                              refine z_geti X fX9_168 (zso_21 hS) rfl dX9_entry_233 ?_
                              rw [heτ]
                              refine z_iload_n X dX9_entry_236 rfl ?_
                              refine z_iastN X (zsa_23 hS) (by omega) (by omega) dX9_entry_237 ?_
                              refine z_aload_n X dX9_entry_238 rfl ?_
                              refine z_getr2 X fX9_16 (zso_21 hS) (zsr_21_4 hS) rfl dX9_entry_239 ?_
                              refine z_iconst (v := nI 4) X (by decide) dX9_entry_242 ?_
                              refine z_aload_n X dX9_entry_243 rfl ?_
                              refine z_geti X fX9_168 (zso_21 hS) rfl dX9_entry_244 ?_
                              repeat rw [z_up_ne (by decide)]
                              rw [heτ]
                              refine z_imulN X dX9_entry_247 ?_
                              refine z_iload_n X dX9_entry_248 rfl ?_
                              refine z_iastN X (zsa_24 hS) (by omega) (by omega) dX9_entry_249 ?_
                              refine z_aload_n X dX9_entry_250 rfl ?_
                              refine z_getr2 X fX9_16 (zso_21 hS) (zsr_21_4 hS) rfl dX9_entry_251 ?_
                              refine z_iconst (v := nI 4) X (by decide) dX9_entry_254 ?_
                              refine z_aload_n X dX9_entry_255 rfl ?_
                              refine z_geti X fX9_168 (zso_21 hS) rfl dX9_entry_256 ?_
                              repeat rw [z_up_ne (by decide)]
                              rw [heτ]
                              refine z_imulN X dX9_entry_259 ?_
                              refine z_iconst (v := nI 1) X (by decide) dX9_entry_260 ?_
                              refine z_iaddN X dX9_entry_261 ?_
                              refine z_iload_n X dX9_entry_262 rfl ?_
                              refine z_iastN X (zsa_24 hS) (by omega) (by omega) dX9_entry_263 ?_
                              refine z_aload_n X dX9_entry_264 rfl ?_
                              refine z_getr2 X fX9_16 (zso_21 hS) (zsr_21_4 hS) rfl dX9_entry_265 ?_
                              refine z_iconst (v := nI 4) X (by decide) dX9_entry_268 ?_
                              refine z_aload_n X dX9_entry_269 rfl ?_
                              refine z_geti X fX9_168 (zso_21 hS) rfl dX9_entry_270 ?_
                              repeat rw [z_up_ne (by decide)]
                              rw [heτ]
                              refine z_imulN X dX9_entry_273 ?_
                              refine z_iconst (v := nI 2) X (by decide) dX9_entry_274 ?_
                              refine z_iaddN X dX9_entry_275 ?_
                              refine z_iload X dX9_entry_276 rfl ?_
                              refine z_iastN X (zsa_24 hS) (by omega) (by omega) dX9_entry_278 ?_
                              refine z_aload_n X dX9_entry_279 rfl ?_
                              refine z_getr2 X fX9_16 (zso_21 hS) (zsr_21_4 hS) rfl dX9_entry_280 ?_
                              refine z_iconst (v := nI 4) X (by decide) dX9_entry_283 ?_
                              refine z_aload_n X dX9_entry_284 rfl ?_
                              refine z_geti X fX9_168 (zso_21 hS) rfl dX9_entry_285 ?_
                              repeat rw [z_up_ne (by decide)]
                              rw [heτ]
                              refine z_imulN X dX9_entry_288 ?_
                              refine z_iconst (v := nI 3) X (by decide) dX9_entry_289 ?_
                              refine z_iaddN X dX9_entry_290 ?_
                              refine z_iload X dX9_entry_291 rfl ?_
                              refine z_iastN X (zsa_24 hS) (by omega) (by omega) dX9_entry_293 ?_
                              refine z_aload_n X dX9_entry_294 rfl ?_
                              refine z_dup X rfl dX9_entry_295 ?_
                              refine z_geti X fX9_168 (zso_21 hS) rfl dX9_entry_296 ?_
                              repeat rw [z_up_ne (by decide)]
                              rw [heτ]
                              refine z_iconst (v := nI 1) X (by decide) dX9_entry_299 ?_
                              refine z_iaddN X dX9_entry_300 ?_
                              refine z_puti X fX9_168 (zso_21 hS) rfl dX9_entry_301 ?_
                              refine z_aload_n X dX9_entry_304 rfl ?_
                              refine z_geti X fX9_168 (zso_21 hS) rfl dX9_entry_305 ?_
                              rw [z_up_app, if_pos rfl, if_pos rfl]
                              refine z_iconst (v := nI 1) X (by decide) dX9_entry_308 ?_
                              refine z_isubN X (by omega) dX9_entry_309 ?_
                              refine z_iret X (by decide) (by decide) rfl dX9_entry_310 ?_
                              exact ⟨rfl, _, rfl, Or.inr ⟨by unfold zx_entry; rw [if_neg (fun q => q ⟨c_6, c_14, c_23, c_32⟩), if_neg (fun q => by rcases q with q | ⟨q1, q2⟩ | ⟨q1, q2⟩; exact c_52 q; (first | exact c_57 q1 | exact q2 c_63); (first | exact c_69 q1 | exact q2 c_75)), zif_f (zmay_t e4 e5 eτ (ht.mp c_219))], by congr 1, by rw [hτ]⟩⟩
                            · skip
                              try simp (disch := omega) only [zb_notn, zb_not, zb_n0, zb_0, Bool.not_eq_false, Bool.not_eq_true, Bool.not_eq_true', Bool.not_eq_false', decide_eq_true_eq, decide_eq_false_iff_not, Classical.not_not] at c_219
                              refine z_aload_n X dX9_entry_222 rfl ?_
                              refine z_iconst (v := 3) X (by decide) dX9_entry_223 ?_
                              refine z_runV X kX9_154 (tX9_fails _ hS) (zso_21 hS) rfl rfl (Nat.le_of_ble_eq_true rfl) ⟨by decide, by decide⟩ ⟨by decide, by decide⟩ dX9_entry_224 ?_
                              rintro _ g1 s1 ⟨rfl, h8, h9⟩
                              replace h8 := h8.symm
                              subst h8
                              replace h9 := h9.symm
                              subst h9
                              refine z_iret X (by decide) (by decide) rfl dX9_entry_227 ?_
                              exact ⟨rfl, _, rfl, by rw [hτ]; exact zMP_2 (j := 2) (by unfold zx_entry; rw [if_neg (fun q => q ⟨c_6, c_14, c_23, c_32⟩), if_neg (fun q => by rcases q with q | ⟨q1, q2⟩ | ⟨q1, q2⟩; exact c_52 q; (first | exact c_57 q1 | exact q2 c_63); (first | exact c_69 q1 | exact q2 c_75)), zif_t (zmay_f e4 e5 eτ (by omega) (fun q => absurd (ht.mpr q) (by rw [c_219]; decide)))]) rfl⟩
                          · skip
                            try simp (disch := omega) only [zk0, nI_leI, nI_ltI, nI_eq, zbk_notn, zbk_not, zbk_n0, zbk_0, zb_0, zb_n0, zb_not, zb_notn, Bool.not_eq_false, Bool.not_eq_true, Bool.not_eq_true', Bool.not_eq_false', decide_eq_true_eq, decide_eq_false_iff_not, Classical.not_not] at c_109
                            refine z_aload_n X dX9_entry_112 rfl ?_
                            refine z_getr2 X fX9_16 (zso_21 hS) (zsr_21_4 hS) rfl dX9_entry_113 ?_
                            refine z_iconst (v := nI 4) X (by decide) dX9_entry_116 ?_
                            refine z_iload X dX9_entry_117 rfl ?_
                            refine z_imulN X dX9_entry_119 ?_
                            refine z_ialdN X (zsa_24 hS) (by omega) (by omega) dX9_entry_120 ?_
                            refine z_iload_n X dX9_entry_121 rfl ?_
                            refine z_icmp_ne (tgt := 176) X dX9_entry_122 (by decide) (fun c_122 => ?_) (fun c_122 => ?_)
                            · skip
                              refine z_iconst (v := nI 0) X (by decide) dX9_entry_176 ?_
                              refine z_istore X dX9_entry_177 (by decide) ?_
                              refine z_iload X dX9_entry_179 rfl ?_
                              refine z_if_eq (tgt := 208) X dX9_entry_181 (by decide) (fun c_181 => ?_) (fun c_181 => ?_)
                              · skip
                                try simp (disch := omega) only [zb_notn, zb_not, zb_n0, zb_0, Bool.not_eq_false, Bool.not_eq_true, Bool.not_eq_true', Bool.not_eq_false', decide_eq_true_eq, decide_eq_false_iff_not, Classical.not_not] at c_181
                                have hN : ¬ zmay (τ 24) (τ 23) ne (nI W) a b c9 d (k + 1) := fun q => by first | exact absurd (ht.mpr ⟨q.1, fun j hj => q.2 j (by omega)⟩) (by rw [c_181]; decide) | exact (q.2 k (by omega)).1 ⟨c_122, c_137, c_153, c_169⟩ | (have q9 := (q.2 k (by omega)).2; rw [eC] at q9; omega)
                                refine z_iconst (v := nI 0) X (by decide) dX9_entry_208 ?_
                                refine z_istore X dX9_entry_209 (by decide) ?_
                                refine z_inc1 X dX9_entry_211 rfl (by decide) ?_
                                refine z_goto (tgt := 103) X dX9_entry_214 (by decide) ?_
                                first | exact ih_103 (k + 1) true _ (by omega) ⟨fun _ => hY, fun _ => rfl⟩ (by omega) | exact ih_103 (k + 1) false _ (by omega) ⟨fun q => absurd q (by decide), fun q => absurd q hN⟩ (by omega)
                              · skip
                                try simp (disch := omega) only [zb_notn, zb_not, zb_n0, zb_0, Bool.not_eq_false, Bool.not_eq_true, Bool.not_eq_true', Bool.not_eq_false', decide_eq_true_eq, decide_eq_false_iff_not, Classical.not_not] at c_181
                                refine z_iload X dX9_entry_184 rfl ?_
                                refine z_if_ne (tgt := 208) X dX9_entry_186 (by decide) (fun c_186 => ?_) (fun c_186 => ?_)
                                · first | exact absurd c_186 (by decide) | exact absurd (by decide) c_186
                                · skip
                                  refine z_aload_n X dX9_entry_189 rfl ?_
                                  refine z_getr2 X fX9_13 (zso_21 hS) (zsr_21_3 hS) rfl dX9_entry_190 ?_
                                  refine z_iload X dX9_entry_193 rfl ?_
                                  refine z_ialdN X (zsa_23 hS) (by omega) (by omega) dX9_entry_195 ?_
                                  refine z_iload_n X dX9_entry_196 rfl ?_
                                  obtain ⟨Ck, hCk, eC⟩ := hCτ k (by omega)
                                  have hz5 := zpk_le (nI Ck) (nI W) 5
                                  replace hz5 : zp (nI Ck) (nI W) ≤ 5 := hz5
                                  rw [eC]
                                  refine z_runS X kX9_147 (tX9_parts _ _ (by omega) (by omega)) rfl rfl (Nat.le_of_ble_eq_true rfl) ⟨by decide, by decide⟩ ⟨by decide, by decide⟩ dX9_entry_197 ?_
                                  rintro _ g1 s1 ⟨rfl, h8, h9⟩
                                  replace h8 := h8.symm
                                  subst h8
                                  replace h9 := h9.symm
                                  subst h9
                                  refine z_iconst (v := nI 1) X (by decide) dX9_entry_200 ?_
                                  refine z_icmp_le (tgt := 208) X dX9_entry_201 (by decide) (fun c_201 => ?_) (fun c_201 => ?_)
                                  · skip
                                    try simp (disch := omega) only [zk0, nI_leI, nI_ltI, nI_eq, zbk_notn, zbk_not, zbk_n0, zbk_0, zb_0, zb_n0, zb_not, zb_notn, Bool.not_eq_false, Bool.not_eq_true, Bool.not_eq_true', Bool.not_eq_false', decide_eq_true_eq, decide_eq_false_iff_not, Classical.not_not] at c_201
                                    have hN : ¬ zmay (τ 24) (τ 23) ne (nI W) a b c9 d (k + 1) := fun q => by first | exact absurd (ht.mpr ⟨q.1, fun j hj => q.2 j (by omega)⟩) (by rw [c_181]; decide) | exact (q.2 k (by omega)).1 ⟨c_122, c_137, c_153, c_169⟩ | (have q9 := (q.2 k (by omega)).2; rw [eC] at q9; omega)
                                    refine z_iconst (v := nI 0) X (by decide) dX9_entry_208 ?_
                                    refine z_istore X dX9_entry_209 (by decide) ?_
                                    refine z_inc1 X dX9_entry_211 rfl (by decide) ?_
                                    refine z_goto (tgt := 103) X dX9_entry_214 (by decide) ?_
                                    first | exact ih_103 (k + 1) true _ (by omega) ⟨fun _ => hY, fun _ => rfl⟩ (by omega) | exact ih_103 (k + 1) false _ (by omega) ⟨fun q => absurd q (by decide), fun q => absurd q hN⟩ (by omega)
                                  · skip
                                    try simp (disch := omega) only [zk0, nI_leI, nI_ltI, nI_eq, zbk_notn, zbk_not, zbk_n0, zbk_0, zb_0, zb_n0, zb_not, zb_notn, Bool.not_eq_false, Bool.not_eq_true, Bool.not_eq_true', Bool.not_eq_false', decide_eq_true_eq, decide_eq_false_iff_not, Classical.not_not] at c_201
                                    have hY : zmay (τ 24) (τ 23) ne (nI W) a b c9 d (k + 1) := ⟨(ht.mp c_181).1, fun j hj => by rcases Nat.lt_or_ge j k with h | h; exact (ht.mp c_181).2 j h; (have e : j = k := by omega); subst e; exact ⟨fun q => by first | exact c_122 q.1 | exact c_137 q.2.1 | exact c_153 q.2.2.1 | exact c_169 q.2.2.2, by rw [eC]; omega⟩⟩
                                    refine z_iconst (v := nI 1) X (by decide) dX9_entry_204 ?_
                                    refine z_goto (tgt := 209) X dX9_entry_205 (by decide) ?_
                                    refine z_istore X dX9_entry_209 (by decide) ?_
                                    refine z_inc1 X dX9_entry_211 rfl (by decide) ?_
                                    refine z_goto (tgt := 103) X dX9_entry_214 (by decide) ?_
                                    first | exact ih_103 (k + 1) true _ (by omega) ⟨fun _ => hY, fun _ => rfl⟩ (by omega) | exact ih_103 (k + 1) false _ (by omega) ⟨fun q => absurd q (by decide), fun q => absurd q hN⟩ (by omega)
                            · skip
                              refine z_aload_n X dX9_entry_125 rfl ?_
                              refine z_getr2 X fX9_16 (zso_21 hS) (zsr_21_4 hS) rfl dX9_entry_126 ?_
                              refine z_iconst (v := nI 4) X (by decide) dX9_entry_129 ?_
                              refine z_iload X dX9_entry_130 rfl ?_
                              refine z_imulN X dX9_entry_132 ?_
                              refine z_iconst (v := nI 1) X (by decide) dX9_entry_133 ?_
                              refine z_iaddN X dX9_entry_134 ?_
                              refine z_ialdN X (zsa_24 hS) (by omega) (by omega) dX9_entry_135 ?_
                              refine z_iload_n X dX9_entry_136 rfl ?_
                              refine z_icmp_ne (tgt := 176) X dX9_entry_137 (by decide) (fun c_137 => ?_) (fun c_137 => ?_)
                              · skip
                                refine z_iconst (v := nI 0) X (by decide) dX9_entry_176 ?_
                                refine z_istore X dX9_entry_177 (by decide) ?_
                                refine z_iload X dX9_entry_179 rfl ?_
                                refine z_if_eq (tgt := 208) X dX9_entry_181 (by decide) (fun c_181 => ?_) (fun c_181 => ?_)
                                · skip
                                  try simp (disch := omega) only [zb_notn, zb_not, zb_n0, zb_0, Bool.not_eq_false, Bool.not_eq_true, Bool.not_eq_true', Bool.not_eq_false', decide_eq_true_eq, decide_eq_false_iff_not, Classical.not_not] at c_181
                                  have hN : ¬ zmay (τ 24) (τ 23) ne (nI W) a b c9 d (k + 1) := fun q => by first | exact absurd (ht.mpr ⟨q.1, fun j hj => q.2 j (by omega)⟩) (by rw [c_181]; decide) | exact (q.2 k (by omega)).1 ⟨c_122, c_137, c_153, c_169⟩ | (have q9 := (q.2 k (by omega)).2; rw [eC] at q9; omega)
                                  refine z_iconst (v := nI 0) X (by decide) dX9_entry_208 ?_
                                  refine z_istore X dX9_entry_209 (by decide) ?_
                                  refine z_inc1 X dX9_entry_211 rfl (by decide) ?_
                                  refine z_goto (tgt := 103) X dX9_entry_214 (by decide) ?_
                                  first | exact ih_103 (k + 1) true _ (by omega) ⟨fun _ => hY, fun _ => rfl⟩ (by omega) | exact ih_103 (k + 1) false _ (by omega) ⟨fun q => absurd q (by decide), fun q => absurd q hN⟩ (by omega)
                                · skip
                                  try simp (disch := omega) only [zb_notn, zb_not, zb_n0, zb_0, Bool.not_eq_false, Bool.not_eq_true, Bool.not_eq_true', Bool.not_eq_false', decide_eq_true_eq, decide_eq_false_iff_not, Classical.not_not] at c_181
                                  refine z_iload X dX9_entry_184 rfl ?_
                                  refine z_if_ne (tgt := 208) X dX9_entry_186 (by decide) (fun c_186 => ?_) (fun c_186 => ?_)
                                  · first | exact absurd c_186 (by decide) | exact absurd (by decide) c_186
                                  · skip
                                    refine z_aload_n X dX9_entry_189 rfl ?_
                                    refine z_getr2 X fX9_13 (zso_21 hS) (zsr_21_3 hS) rfl dX9_entry_190 ?_
                                    refine z_iload X dX9_entry_193 rfl ?_
                                    refine z_ialdN X (zsa_23 hS) (by omega) (by omega) dX9_entry_195 ?_
                                    refine z_iload_n X dX9_entry_196 rfl ?_
                                    obtain ⟨Ck, hCk, eC⟩ := hCτ k (by omega)
                                    have hz5 := zpk_le (nI Ck) (nI W) 5
                                    replace hz5 : zp (nI Ck) (nI W) ≤ 5 := hz5
                                    rw [eC]
                                    refine z_runS X kX9_147 (tX9_parts _ _ (by omega) (by omega)) rfl rfl (Nat.le_of_ble_eq_true rfl) ⟨by decide, by decide⟩ ⟨by decide, by decide⟩ dX9_entry_197 ?_
                                    rintro _ g1 s1 ⟨rfl, h8, h9⟩
                                    replace h8 := h8.symm
                                    subst h8
                                    replace h9 := h9.symm
                                    subst h9
                                    refine z_iconst (v := nI 1) X (by decide) dX9_entry_200 ?_
                                    refine z_icmp_le (tgt := 208) X dX9_entry_201 (by decide) (fun c_201 => ?_) (fun c_201 => ?_)
                                    · skip
                                      try simp (disch := omega) only [zk0, nI_leI, nI_ltI, nI_eq, zbk_notn, zbk_not, zbk_n0, zbk_0, zb_0, zb_n0, zb_not, zb_notn, Bool.not_eq_false, Bool.not_eq_true, Bool.not_eq_true', Bool.not_eq_false', decide_eq_true_eq, decide_eq_false_iff_not, Classical.not_not] at c_201
                                      have hN : ¬ zmay (τ 24) (τ 23) ne (nI W) a b c9 d (k + 1) := fun q => by first | exact absurd (ht.mpr ⟨q.1, fun j hj => q.2 j (by omega)⟩) (by rw [c_181]; decide) | exact (q.2 k (by omega)).1 ⟨c_122, c_137, c_153, c_169⟩ | (have q9 := (q.2 k (by omega)).2; rw [eC] at q9; omega)
                                      refine z_iconst (v := nI 0) X (by decide) dX9_entry_208 ?_
                                      refine z_istore X dX9_entry_209 (by decide) ?_
                                      refine z_inc1 X dX9_entry_211 rfl (by decide) ?_
                                      refine z_goto (tgt := 103) X dX9_entry_214 (by decide) ?_
                                      first | exact ih_103 (k + 1) true _ (by omega) ⟨fun _ => hY, fun _ => rfl⟩ (by omega) | exact ih_103 (k + 1) false _ (by omega) ⟨fun q => absurd q (by decide), fun q => absurd q hN⟩ (by omega)
                                    · skip
                                      try simp (disch := omega) only [zk0, nI_leI, nI_ltI, nI_eq, zbk_notn, zbk_not, zbk_n0, zbk_0, zb_0, zb_n0, zb_not, zb_notn, Bool.not_eq_false, Bool.not_eq_true, Bool.not_eq_true', Bool.not_eq_false', decide_eq_true_eq, decide_eq_false_iff_not, Classical.not_not] at c_201
                                      have hY : zmay (τ 24) (τ 23) ne (nI W) a b c9 d (k + 1) := ⟨(ht.mp c_181).1, fun j hj => by rcases Nat.lt_or_ge j k with h | h; exact (ht.mp c_181).2 j h; (have e : j = k := by omega); subst e; exact ⟨fun q => by first | exact c_122 q.1 | exact c_137 q.2.1 | exact c_153 q.2.2.1 | exact c_169 q.2.2.2, by rw [eC]; omega⟩⟩
                                      refine z_iconst (v := nI 1) X (by decide) dX9_entry_204 ?_
                                      refine z_goto (tgt := 209) X dX9_entry_205 (by decide) ?_
                                      refine z_istore X dX9_entry_209 (by decide) ?_
                                      refine z_inc1 X dX9_entry_211 rfl (by decide) ?_
                                      refine z_goto (tgt := 103) X dX9_entry_214 (by decide) ?_
                                      first | exact ih_103 (k + 1) true _ (by omega) ⟨fun _ => hY, fun _ => rfl⟩ (by omega) | exact ih_103 (k + 1) false _ (by omega) ⟨fun q => absurd q (by decide), fun q => absurd q hN⟩ (by omega)
                              · skip
                                refine z_aload_n X dX9_entry_140 rfl ?_
                                refine z_getr2 X fX9_16 (zso_21 hS) (zsr_21_4 hS) rfl dX9_entry_141 ?_
                                refine z_iconst (v := nI 4) X (by decide) dX9_entry_144 ?_
                                refine z_iload X dX9_entry_145 rfl ?_
                                refine z_imulN X dX9_entry_147 ?_
                                refine z_iconst (v := nI 2) X (by decide) dX9_entry_148 ?_
                                refine z_iaddN X dX9_entry_149 ?_
                                refine z_ialdN X (zsa_24 hS) (by omega) (by omega) dX9_entry_150 ?_
                                refine z_iload X dX9_entry_151 rfl ?_
                                refine z_icmp_ne (tgt := 176) X dX9_entry_153 (by decide) (fun c_153 => ?_) (fun c_153 => ?_)
                                · skip
                                  refine z_iconst (v := nI 0) X (by decide) dX9_entry_176 ?_
                                  refine z_istore X dX9_entry_177 (by decide) ?_
                                  refine z_iload X dX9_entry_179 rfl ?_
                                  refine z_if_eq (tgt := 208) X dX9_entry_181 (by decide) (fun c_181 => ?_) (fun c_181 => ?_)
                                  · skip
                                    try simp (disch := omega) only [zb_notn, zb_not, zb_n0, zb_0, Bool.not_eq_false, Bool.not_eq_true, Bool.not_eq_true', Bool.not_eq_false', decide_eq_true_eq, decide_eq_false_iff_not, Classical.not_not] at c_181
                                    have hN : ¬ zmay (τ 24) (τ 23) ne (nI W) a b c9 d (k + 1) := fun q => by first | exact absurd (ht.mpr ⟨q.1, fun j hj => q.2 j (by omega)⟩) (by rw [c_181]; decide) | exact (q.2 k (by omega)).1 ⟨c_122, c_137, c_153, c_169⟩ | (have q9 := (q.2 k (by omega)).2; rw [eC] at q9; omega)
                                    refine z_iconst (v := nI 0) X (by decide) dX9_entry_208 ?_
                                    refine z_istore X dX9_entry_209 (by decide) ?_
                                    refine z_inc1 X dX9_entry_211 rfl (by decide) ?_
                                    refine z_goto (tgt := 103) X dX9_entry_214 (by decide) ?_
                                    first | exact ih_103 (k + 1) true _ (by omega) ⟨fun _ => hY, fun _ => rfl⟩ (by omega) | exact ih_103 (k + 1) false _ (by omega) ⟨fun q => absurd q (by decide), fun q => absurd q hN⟩ (by omega)
                                  · skip
                                    try simp (disch := omega) only [zb_notn, zb_not, zb_n0, zb_0, Bool.not_eq_false, Bool.not_eq_true, Bool.not_eq_true', Bool.not_eq_false', decide_eq_true_eq, decide_eq_false_iff_not, Classical.not_not] at c_181
                                    refine z_iload X dX9_entry_184 rfl ?_
                                    refine z_if_ne (tgt := 208) X dX9_entry_186 (by decide) (fun c_186 => ?_) (fun c_186 => ?_)
                                    · first | exact absurd c_186 (by decide) | exact absurd (by decide) c_186
                                    · skip
                                      refine z_aload_n X dX9_entry_189 rfl ?_
                                      refine z_getr2 X fX9_13 (zso_21 hS) (zsr_21_3 hS) rfl dX9_entry_190 ?_
                                      refine z_iload X dX9_entry_193 rfl ?_
                                      refine z_ialdN X (zsa_23 hS) (by omega) (by omega) dX9_entry_195 ?_
                                      refine z_iload_n X dX9_entry_196 rfl ?_
                                      obtain ⟨Ck, hCk, eC⟩ := hCτ k (by omega)
                                      have hz5 := zpk_le (nI Ck) (nI W) 5
                                      replace hz5 : zp (nI Ck) (nI W) ≤ 5 := hz5
                                      rw [eC]
                                      refine z_runS X kX9_147 (tX9_parts _ _ (by omega) (by omega)) rfl rfl (Nat.le_of_ble_eq_true rfl) ⟨by decide, by decide⟩ ⟨by decide, by decide⟩ dX9_entry_197 ?_
                                      rintro _ g1 s1 ⟨rfl, h8, h9⟩
                                      replace h8 := h8.symm
                                      subst h8
                                      replace h9 := h9.symm
                                      subst h9
                                      refine z_iconst (v := nI 1) X (by decide) dX9_entry_200 ?_
                                      refine z_icmp_le (tgt := 208) X dX9_entry_201 (by decide) (fun c_201 => ?_) (fun c_201 => ?_)
                                      · skip
                                        try simp (disch := omega) only [zk0, nI_leI, nI_ltI, nI_eq, zbk_notn, zbk_not, zbk_n0, zbk_0, zb_0, zb_n0, zb_not, zb_notn, Bool.not_eq_false, Bool.not_eq_true, Bool.not_eq_true', Bool.not_eq_false', decide_eq_true_eq, decide_eq_false_iff_not, Classical.not_not] at c_201
                                        have hN : ¬ zmay (τ 24) (τ 23) ne (nI W) a b c9 d (k + 1) := fun q => by first | exact absurd (ht.mpr ⟨q.1, fun j hj => q.2 j (by omega)⟩) (by rw [c_181]; decide) | exact (q.2 k (by omega)).1 ⟨c_122, c_137, c_153, c_169⟩ | (have q9 := (q.2 k (by omega)).2; rw [eC] at q9; omega)
                                        refine z_iconst (v := nI 0) X (by decide) dX9_entry_208 ?_
                                        refine z_istore X dX9_entry_209 (by decide) ?_
                                        refine z_inc1 X dX9_entry_211 rfl (by decide) ?_
                                        refine z_goto (tgt := 103) X dX9_entry_214 (by decide) ?_
                                        first | exact ih_103 (k + 1) true _ (by omega) ⟨fun _ => hY, fun _ => rfl⟩ (by omega) | exact ih_103 (k + 1) false _ (by omega) ⟨fun q => absurd q (by decide), fun q => absurd q hN⟩ (by omega)
                                      · skip
                                        try simp (disch := omega) only [zk0, nI_leI, nI_ltI, nI_eq, zbk_notn, zbk_not, zbk_n0, zbk_0, zb_0, zb_n0, zb_not, zb_notn, Bool.not_eq_false, Bool.not_eq_true, Bool.not_eq_true', Bool.not_eq_false', decide_eq_true_eq, decide_eq_false_iff_not, Classical.not_not] at c_201
                                        have hY : zmay (τ 24) (τ 23) ne (nI W) a b c9 d (k + 1) := ⟨(ht.mp c_181).1, fun j hj => by rcases Nat.lt_or_ge j k with h | h; exact (ht.mp c_181).2 j h; (have e : j = k := by omega); subst e; exact ⟨fun q => by first | exact c_122 q.1 | exact c_137 q.2.1 | exact c_153 q.2.2.1 | exact c_169 q.2.2.2, by rw [eC]; omega⟩⟩
                                        refine z_iconst (v := nI 1) X (by decide) dX9_entry_204 ?_
                                        refine z_goto (tgt := 209) X dX9_entry_205 (by decide) ?_
                                        refine z_istore X dX9_entry_209 (by decide) ?_
                                        refine z_inc1 X dX9_entry_211 rfl (by decide) ?_
                                        refine z_goto (tgt := 103) X dX9_entry_214 (by decide) ?_
                                        first | exact ih_103 (k + 1) true _ (by omega) ⟨fun _ => hY, fun _ => rfl⟩ (by omega) | exact ih_103 (k + 1) false _ (by omega) ⟨fun q => absurd q (by decide), fun q => absurd q hN⟩ (by omega)
                                · skip
                                  refine z_aload_n X dX9_entry_156 rfl ?_
                                  refine z_getr2 X fX9_16 (zso_21 hS) (zsr_21_4 hS) rfl dX9_entry_157 ?_
                                  refine z_iconst (v := nI 4) X (by decide) dX9_entry_160 ?_
                                  refine z_iload X dX9_entry_161 rfl ?_
                                  refine z_imulN X dX9_entry_163 ?_
                                  refine z_iconst (v := nI 3) X (by decide) dX9_entry_164 ?_
                                  refine z_iaddN X dX9_entry_165 ?_
                                  refine z_ialdN X (zsa_24 hS) (by omega) (by omega) dX9_entry_166 ?_
                                  refine z_iload X dX9_entry_167 rfl ?_
                                  refine z_icmp_ne (tgt := 176) X dX9_entry_169 (by decide) (fun c_169 => ?_) (fun c_169 => ?_)
                                  · skip
                                    refine z_iconst (v := nI 0) X (by decide) dX9_entry_176 ?_
                                    refine z_istore X dX9_entry_177 (by decide) ?_
                                    refine z_iload X dX9_entry_179 rfl ?_
                                    refine z_if_eq (tgt := 208) X dX9_entry_181 (by decide) (fun c_181 => ?_) (fun c_181 => ?_)
                                    · skip
                                      try simp (disch := omega) only [zb_notn, zb_not, zb_n0, zb_0, Bool.not_eq_false, Bool.not_eq_true, Bool.not_eq_true', Bool.not_eq_false', decide_eq_true_eq, decide_eq_false_iff_not, Classical.not_not] at c_181
                                      have hN : ¬ zmay (τ 24) (τ 23) ne (nI W) a b c9 d (k + 1) := fun q => by first | exact absurd (ht.mpr ⟨q.1, fun j hj => q.2 j (by omega)⟩) (by rw [c_181]; decide) | exact (q.2 k (by omega)).1 ⟨c_122, c_137, c_153, c_169⟩ | (have q9 := (q.2 k (by omega)).2; rw [eC] at q9; omega)
                                      refine z_iconst (v := nI 0) X (by decide) dX9_entry_208 ?_
                                      refine z_istore X dX9_entry_209 (by decide) ?_
                                      refine z_inc1 X dX9_entry_211 rfl (by decide) ?_
                                      refine z_goto (tgt := 103) X dX9_entry_214 (by decide) ?_
                                      first | exact ih_103 (k + 1) true _ (by omega) ⟨fun _ => hY, fun _ => rfl⟩ (by omega) | exact ih_103 (k + 1) false _ (by omega) ⟨fun q => absurd q (by decide), fun q => absurd q hN⟩ (by omega)
                                    · skip
                                      try simp (disch := omega) only [zb_notn, zb_not, zb_n0, zb_0, Bool.not_eq_false, Bool.not_eq_true, Bool.not_eq_true', Bool.not_eq_false', decide_eq_true_eq, decide_eq_false_iff_not, Classical.not_not] at c_181
                                      refine z_iload X dX9_entry_184 rfl ?_
                                      refine z_if_ne (tgt := 208) X dX9_entry_186 (by decide) (fun c_186 => ?_) (fun c_186 => ?_)
                                      · first | exact absurd c_186 (by decide) | exact absurd (by decide) c_186
                                      · skip
                                        refine z_aload_n X dX9_entry_189 rfl ?_
                                        refine z_getr2 X fX9_13 (zso_21 hS) (zsr_21_3 hS) rfl dX9_entry_190 ?_
                                        refine z_iload X dX9_entry_193 rfl ?_
                                        refine z_ialdN X (zsa_23 hS) (by omega) (by omega) dX9_entry_195 ?_
                                        refine z_iload_n X dX9_entry_196 rfl ?_
                                        obtain ⟨Ck, hCk, eC⟩ := hCτ k (by omega)
                                        have hz5 := zpk_le (nI Ck) (nI W) 5
                                        replace hz5 : zp (nI Ck) (nI W) ≤ 5 := hz5
                                        rw [eC]
                                        refine z_runS X kX9_147 (tX9_parts _ _ (by omega) (by omega)) rfl rfl (Nat.le_of_ble_eq_true rfl) ⟨by decide, by decide⟩ ⟨by decide, by decide⟩ dX9_entry_197 ?_
                                        rintro _ g1 s1 ⟨rfl, h8, h9⟩
                                        replace h8 := h8.symm
                                        subst h8
                                        replace h9 := h9.symm
                                        subst h9
                                        refine z_iconst (v := nI 1) X (by decide) dX9_entry_200 ?_
                                        refine z_icmp_le (tgt := 208) X dX9_entry_201 (by decide) (fun c_201 => ?_) (fun c_201 => ?_)
                                        · skip
                                          try simp (disch := omega) only [zk0, nI_leI, nI_ltI, nI_eq, zbk_notn, zbk_not, zbk_n0, zbk_0, zb_0, zb_n0, zb_not, zb_notn, Bool.not_eq_false, Bool.not_eq_true, Bool.not_eq_true', Bool.not_eq_false', decide_eq_true_eq, decide_eq_false_iff_not, Classical.not_not] at c_201
                                          have hN : ¬ zmay (τ 24) (τ 23) ne (nI W) a b c9 d (k + 1) := fun q => by first | exact absurd (ht.mpr ⟨q.1, fun j hj => q.2 j (by omega)⟩) (by rw [c_181]; decide) | exact (q.2 k (by omega)).1 ⟨c_122, c_137, c_153, c_169⟩ | (have q9 := (q.2 k (by omega)).2; rw [eC] at q9; omega)
                                          refine z_iconst (v := nI 0) X (by decide) dX9_entry_208 ?_
                                          refine z_istore X dX9_entry_209 (by decide) ?_
                                          refine z_inc1 X dX9_entry_211 rfl (by decide) ?_
                                          refine z_goto (tgt := 103) X dX9_entry_214 (by decide) ?_
                                          first | exact ih_103 (k + 1) true _ (by omega) ⟨fun _ => hY, fun _ => rfl⟩ (by omega) | exact ih_103 (k + 1) false _ (by omega) ⟨fun q => absurd q (by decide), fun q => absurd q hN⟩ (by omega)
                                        · skip
                                          try simp (disch := omega) only [zk0, nI_leI, nI_ltI, nI_eq, zbk_notn, zbk_not, zbk_n0, zbk_0, zb_0, zb_n0, zb_not, zb_notn, Bool.not_eq_false, Bool.not_eq_true, Bool.not_eq_true', Bool.not_eq_false', decide_eq_true_eq, decide_eq_false_iff_not, Classical.not_not] at c_201
                                          have hY : zmay (τ 24) (τ 23) ne (nI W) a b c9 d (k + 1) := ⟨(ht.mp c_181).1, fun j hj => by rcases Nat.lt_or_ge j k with h | h; exact (ht.mp c_181).2 j h; (have e : j = k := by omega); subst e; exact ⟨fun q => by first | exact c_122 q.1 | exact c_137 q.2.1 | exact c_153 q.2.2.1 | exact c_169 q.2.2.2, by rw [eC]; omega⟩⟩
                                          refine z_iconst (v := nI 1) X (by decide) dX9_entry_204 ?_
                                          refine z_goto (tgt := 209) X dX9_entry_205 (by decide) ?_
                                          refine z_istore X dX9_entry_209 (by decide) ?_
                                          refine z_inc1 X dX9_entry_211 rfl (by decide) ?_
                                          refine z_goto (tgt := 103) X dX9_entry_214 (by decide) ?_
                                          first | exact ih_103 (k + 1) true _ (by omega) ⟨fun _ => hY, fun _ => rfl⟩ (by omega) | exact ih_103 (k + 1) false _ (by omega) ⟨fun q => absurd q (by decide), fun q => absurd q hN⟩ (by omega)
                                  · skip
                                    refine z_iconst (v := nI 1) X (by decide) dX9_entry_172 ?_
                                    refine z_goto (tgt := 177) X dX9_entry_173 (by decide) ?_
                                    refine z_istore X dX9_entry_177 (by decide) ?_
                                    refine z_iload X dX9_entry_179 rfl ?_
                                    refine z_if_eq (tgt := 208) X dX9_entry_181 (by decide) (fun c_181 => ?_) (fun c_181 => ?_)
                                    · skip
                                      try simp (disch := omega) only [zb_notn, zb_not, zb_n0, zb_0, Bool.not_eq_false, Bool.not_eq_true, Bool.not_eq_true', Bool.not_eq_false', decide_eq_true_eq, decide_eq_false_iff_not, Classical.not_not] at c_181
                                      have hN : ¬ zmay (τ 24) (τ 23) ne (nI W) a b c9 d (k + 1) := fun q => by first | exact absurd (ht.mpr ⟨q.1, fun j hj => q.2 j (by omega)⟩) (by rw [c_181]; decide) | exact (q.2 k (by omega)).1 ⟨c_122, c_137, c_153, c_169⟩ | (have q9 := (q.2 k (by omega)).2; rw [eC] at q9; omega)
                                      refine z_iconst (v := nI 0) X (by decide) dX9_entry_208 ?_
                                      refine z_istore X dX9_entry_209 (by decide) ?_
                                      refine z_inc1 X dX9_entry_211 rfl (by decide) ?_
                                      refine z_goto (tgt := 103) X dX9_entry_214 (by decide) ?_
                                      first | exact ih_103 (k + 1) true _ (by omega) ⟨fun _ => hY, fun _ => rfl⟩ (by omega) | exact ih_103 (k + 1) false _ (by omega) ⟨fun q => absurd q (by decide), fun q => absurd q hN⟩ (by omega)
                                    · skip
                                      try simp (disch := omega) only [zb_notn, zb_not, zb_n0, zb_0, Bool.not_eq_false, Bool.not_eq_true, Bool.not_eq_true', Bool.not_eq_false', decide_eq_true_eq, decide_eq_false_iff_not, Classical.not_not] at c_181
                                      refine z_iload X dX9_entry_184 rfl ?_
                                      refine z_if_ne (tgt := 208) X dX9_entry_186 (by decide) (fun c_186 => ?_) (fun c_186 => ?_)
                                      · skip
                                        have hN : ¬ zmay (τ 24) (τ 23) ne (nI W) a b c9 d (k + 1) := fun q => by first | exact absurd (ht.mpr ⟨q.1, fun j hj => q.2 j (by omega)⟩) (by rw [c_181]; decide) | exact (q.2 k (by omega)).1 ⟨c_122, c_137, c_153, c_169⟩ | (have q9 := (q.2 k (by omega)).2; rw [eC] at q9; omega)
                                        refine z_iconst (v := nI 0) X (by decide) dX9_entry_208 ?_
                                        refine z_istore X dX9_entry_209 (by decide) ?_
                                        refine z_inc1 X dX9_entry_211 rfl (by decide) ?_
                                        refine z_goto (tgt := 103) X dX9_entry_214 (by decide) ?_
                                        first | exact ih_103 (k + 1) true _ (by omega) ⟨fun _ => hY, fun _ => rfl⟩ (by omega) | exact ih_103 (k + 1) false _ (by omega) ⟨fun q => absurd q (by decide), fun q => absurd q hN⟩ (by omega)
                                      · first | exact absurd c_186 (by decide) | exact absurd (by decide) c_186
                      refine z_iconst (v := nI 0) X (by decide) dX9_entry_100 ?_
                      refine z_istore X dX9_entry_101 (by decide) ?_
                      exact loop_103 (ne - 0 + 1) 0 _ _ (Nat.zero_le _) ht0 (by omega)
                  · skip
                    refine z_aload_n X dX9_entry_78 rfl ?_
                    refine z_iconst (v := 2) X (by decide) dX9_entry_79 ?_
                    refine z_runV X kX9_154 (tX9_fails _ hS) (zso_21 hS) rfl rfl (Nat.le_of_ble_eq_true rfl) ⟨by decide, by decide⟩ ⟨by decide, by decide⟩ dX9_entry_80 ?_
                    rintro _ g1 s1 ⟨rfl, h8, h9⟩
                    replace h8 := h8.symm
                    subst h8
                    replace h9 := h9.symm
                    subst h9
                    refine z_iret X (by decide) (by decide) rfl dX9_entry_83 ?_
                    exact ⟨rfl, _, rfl, by rw [hτ]; exact zMP_2 (j := 1) (by unfold zx_entry; rw [if_neg (fun q => q ⟨c_6, c_14, c_23, c_32⟩), if_pos (by first | exact Or.inl c_52 | exact Or.inr (Or.inl ⟨c_57, c_63⟩) | exact Or.inr (Or.inr ⟨c_69, c_75⟩))]) rfl⟩
              · skip
                refine z_iload X dX9_entry_60 rfl ?_
                refine z_iconst (v := -1) X (by decide) dX9_entry_62 ?_
                refine z_icmp_ne (tgt := 78) X dX9_entry_63 (by decide) (fun c_63 => ?_) (fun c_63 => ?_)
                · skip
                  refine z_aload_n X dX9_entry_78 rfl ?_
                  refine z_iconst (v := 2) X (by decide) dX9_entry_79 ?_
                  refine z_runV X kX9_154 (tX9_fails _ hS) (zso_21 hS) rfl rfl (Nat.le_of_ble_eq_true rfl) ⟨by decide, by decide⟩ ⟨by decide, by decide⟩ dX9_entry_80 ?_
                  rintro _ g1 s1 ⟨rfl, h8, h9⟩
                  replace h8 := h8.symm
                  subst h8
                  replace h9 := h9.symm
                  subst h9
                  refine z_iret X (by decide) (by decide) rfl dX9_entry_83 ?_
                  exact ⟨rfl, _, rfl, by rw [hτ]; exact zMP_2 (j := 1) (by unfold zx_entry; rw [if_neg (fun q => q ⟨c_6, c_14, c_23, c_32⟩), if_pos (by first | exact Or.inl c_52 | exact Or.inr (Or.inl ⟨c_57, c_63⟩) | exact Or.inr (Or.inr ⟨c_69, c_75⟩))]) rfl⟩
                · skip
                  refine z_iload X dX9_entry_66 rfl ?_
                  refine z_iconst (v := -1) X (by decide) dX9_entry_68 ?_
                  refine z_icmp_ne (tgt := 84) X dX9_entry_69 (by decide) (fun c_69 => ?_) (fun c_69 => ?_)
                  · skip
                    obtain ⟨W, hW, rfl⟩ := zwd_of c_52
                    refine z_aload_n X dX9_entry_84 rfl ?_
                    refine z_geti X fX9_168 (zso_21 hS) rfl dX9_entry_85 ?_
                    rw [heτ]
                    refine z_bipush (v := nI 40) X (by decide) dX9_entry_88 ?_
                    refine z_icmp_ge (tgt := 97) X dX9_entry_90 (by decide) (fun c_90 => ?_) (fun c_90 => ?_)
                    · skip
                      try simp (disch := omega) only [zk0, nI_leI, nI_ltI, nI_eq, zbk_notn, zbk_not, zbk_n0, zbk_0, zb_0, zb_n0, zb_not, zb_notn, Bool.not_eq_false, Bool.not_eq_true, Bool.not_eq_true', Bool.not_eq_false', decide_eq_true_eq, decide_eq_false_iff_not, Classical.not_not] at c_90
                      refine z_iconst (v := nI 0) X (by decide) dX9_entry_97 ?_
                      first | (have ht0 : true = true ↔ zmay (τ 24) (τ 23) ne (nI W) a b c9 d 0 := ⟨fun _ => ⟨by omega, fun j hj => absurd hj (Nat.not_lt_zero _)⟩, fun _ => rfl⟩; rw [show Value.int (nI 1) = Value.int (zb true) from rfl]) | (have ht0 : false = true ↔ zmay (τ 24) (τ 23) ne (nI W) a b c9 d 0 := ⟨fun q => absurd q (by decide), fun q => by have := q.1; omega⟩; rw [show Value.int (nI 0) = Value.int (zb false) from rfl])
                      refine z_istore X dX9_entry_98 (by decide) ?_
                      have loop_103 : ∀ (n : Nat) (k : Nat) (t : Bool) (v8 : Option Value) (hk : k ≤ ne) (ht : t = true ↔ zmay (τ 24) (τ 23) ne (nI W) a b c9 d k) (hn : ne - k < n), z_V p l e (zRm MX9_entry) s m args below meth c 9 D cy z0 0 0 (zQm MX9_entry below D cy z0 (fun v g' σ' => g' = g ∧ ∃ r, v = some (.int r) ∧ zMP (zx_entry ρ ni ne (nI W) a b c9 d) σ σ' (r = nI ne ∧ σ' = z_up (z_up (z_up (z_up (z_up (z_up (z_up σ 21 48 0) 23 ne (nI W)) 24 (4 * ne) a) 24 (4 * ne + 1) b) 24 (4 * ne + 2) c9) 24 (4 * ne + 3) d) 21 2 (nI (ne + 1)))) args s) 103 [some (.ref (g.2.1 21)), some (.int (nI W)), some (.int a), some (.int b), some (.int c9), some (.int d), some (.int (zb t)), some (.int (nI k)), v8] [] g τ := by
                        intro n
                        induction n with
                        | zero => intro k t v8 hk ht hn; exact absurd hn (Nat.not_lt_zero _)
                        | succ n ih_103 =>
                          intro k t v8 hk ht hn
                          refine z_iload X dX9_entry_103 rfl ?_
                          refine z_aload_n X dX9_entry_105 rfl ?_
                          refine z_geti X fX9_168 (zso_21 hS) rfl dX9_entry_106 ?_
                          rw [heτ]
                          refine z_icmp_ge (tgt := 217) X dX9_entry_109 (by decide) (fun c_109 => ?_) (fun c_109 => ?_)
                          · skip
                            try simp (disch := omega) only [zk0, nI_leI, nI_ltI, nI_eq, zbk_notn, zbk_not, zbk_n0, zbk_0, zb_0, zb_n0, zb_not, zb_notn, Bool.not_eq_false, Bool.not_eq_true, Bool.not_eq_true', Bool.not_eq_false', decide_eq_true_eq, decide_eq_false_iff_not, Classical.not_not] at c_109
                            have e : ne = k := by omega
                            subst e
                            refine z_iload X dX9_entry_217 rfl ?_
                            refine z_if_ne (tgt := 228) X dX9_entry_219 (by decide) (fun c_219 => ?_) (fun c_219 => ?_)
                            · skip
                              try simp (disch := omega) only [zb_notn, zb_not, zb_n0, zb_0, Bool.not_eq_false, Bool.not_eq_true, Bool.not_eq_true', Bool.not_eq_false', decide_eq_true_eq, decide_eq_false_iff_not, Classical.not_not] at c_219
                              have h40 : ne < 40 := (ht.mp c_219).1
                              refine z_aload_n X dX9_entry_228 rfl ?_
                              refine z_getr2 X fX9_13 (zso_21 hS) (zsr_21_3 hS) rfl dX9_entry_229 ?_
                              refine z_aload_n X dX9_entry_232 rfl ?_
                              refine z_geti X fX9_168 (zso_21 hS) rfl dX9_entry_233 ?_
                              rw [heτ]
                              refine z_iload_n X dX9_entry_236 rfl ?_
                              refine z_iastN X (zsa_23 hS) (by omega) (by omega) dX9_entry_237 ?_
                              refine z_aload_n X dX9_entry_238 rfl ?_
                              refine z_getr2 X fX9_16 (zso_21 hS) (zsr_21_4 hS) rfl dX9_entry_239 ?_
                              refine z_iconst (v := nI 4) X (by decide) dX9_entry_242 ?_
                              refine z_aload_n X dX9_entry_243 rfl ?_
                              refine z_geti X fX9_168 (zso_21 hS) rfl dX9_entry_244 ?_
                              repeat rw [z_up_ne (by decide)]
                              rw [heτ]
                              refine z_imulN X dX9_entry_247 ?_
                              refine z_iload_n X dX9_entry_248 rfl ?_
                              refine z_iastN X (zsa_24 hS) (by omega) (by omega) dX9_entry_249 ?_
                              refine z_aload_n X dX9_entry_250 rfl ?_
                              refine z_getr2 X fX9_16 (zso_21 hS) (zsr_21_4 hS) rfl dX9_entry_251 ?_
                              refine z_iconst (v := nI 4) X (by decide) dX9_entry_254 ?_
                              refine z_aload_n X dX9_entry_255 rfl ?_
                              refine z_geti X fX9_168 (zso_21 hS) rfl dX9_entry_256 ?_
                              repeat rw [z_up_ne (by decide)]
                              rw [heτ]
                              refine z_imulN X dX9_entry_259 ?_
                              refine z_iconst (v := nI 1) X (by decide) dX9_entry_260 ?_
                              refine z_iaddN X dX9_entry_261 ?_
                              refine z_iload_n X dX9_entry_262 rfl ?_
                              refine z_iastN X (zsa_24 hS) (by omega) (by omega) dX9_entry_263 ?_
                              refine z_aload_n X dX9_entry_264 rfl ?_
                              refine z_getr2 X fX9_16 (zso_21 hS) (zsr_21_4 hS) rfl dX9_entry_265 ?_
                              refine z_iconst (v := nI 4) X (by decide) dX9_entry_268 ?_
                              refine z_aload_n X dX9_entry_269 rfl ?_
                              refine z_geti X fX9_168 (zso_21 hS) rfl dX9_entry_270 ?_
                              repeat rw [z_up_ne (by decide)]
                              rw [heτ]
                              refine z_imulN X dX9_entry_273 ?_
                              refine z_iconst (v := nI 2) X (by decide) dX9_entry_274 ?_
                              refine z_iaddN X dX9_entry_275 ?_
                              refine z_iload X dX9_entry_276 rfl ?_
                              refine z_iastN X (zsa_24 hS) (by omega) (by omega) dX9_entry_278 ?_
                              refine z_aload_n X dX9_entry_279 rfl ?_
                              refine z_getr2 X fX9_16 (zso_21 hS) (zsr_21_4 hS) rfl dX9_entry_280 ?_
                              refine z_iconst (v := nI 4) X (by decide) dX9_entry_283 ?_
                              refine z_aload_n X dX9_entry_284 rfl ?_
                              refine z_geti X fX9_168 (zso_21 hS) rfl dX9_entry_285 ?_
                              repeat rw [z_up_ne (by decide)]
                              rw [heτ]
                              refine z_imulN X dX9_entry_288 ?_
                              refine z_iconst (v := nI 3) X (by decide) dX9_entry_289 ?_
                              refine z_iaddN X dX9_entry_290 ?_
                              refine z_iload X dX9_entry_291 rfl ?_
                              refine z_iastN X (zsa_24 hS) (by omega) (by omega) dX9_entry_293 ?_
                              refine z_aload_n X dX9_entry_294 rfl ?_
                              refine z_dup X rfl dX9_entry_295 ?_
                              refine z_geti X fX9_168 (zso_21 hS) rfl dX9_entry_296 ?_
                              repeat rw [z_up_ne (by decide)]
                              rw [heτ]
                              refine z_iconst (v := nI 1) X (by decide) dX9_entry_299 ?_
                              refine z_iaddN X dX9_entry_300 ?_
                              refine z_puti X fX9_168 (zso_21 hS) rfl dX9_entry_301 ?_
                              refine z_aload_n X dX9_entry_304 rfl ?_
                              refine z_geti X fX9_168 (zso_21 hS) rfl dX9_entry_305 ?_
                              rw [z_up_app, if_pos rfl, if_pos rfl]
                              refine z_iconst (v := nI 1) X (by decide) dX9_entry_308 ?_
                              refine z_isubN X (by omega) dX9_entry_309 ?_
                              refine z_iret X (by decide) (by decide) rfl dX9_entry_310 ?_
                              exact ⟨rfl, _, rfl, Or.inr ⟨by unfold zx_entry; rw [if_neg (fun q => q ⟨c_6, c_14, c_23, c_32⟩), if_neg (fun q => by rcases q with q | ⟨q1, q2⟩ | ⟨q1, q2⟩; exact c_52 q; (first | exact c_57 q1 | exact q2 c_63); (first | exact c_69 q1 | exact q2 c_75)), zif_f (zmay_t e4 e5 eτ (ht.mp c_219))], by congr 1, by rw [hτ]⟩⟩
                            · skip
                              try simp (disch := omega) only [zb_notn, zb_not, zb_n0, zb_0, Bool.not_eq_false, Bool.not_eq_true, Bool.not_eq_true', Bool.not_eq_false', decide_eq_true_eq, decide_eq_false_iff_not, Classical.not_not] at c_219
                              refine z_aload_n X dX9_entry_222 rfl ?_
                              refine z_iconst (v := 3) X (by decide) dX9_entry_223 ?_
                              refine z_runV X kX9_154 (tX9_fails _ hS) (zso_21 hS) rfl rfl (Nat.le_of_ble_eq_true rfl) ⟨by decide, by decide⟩ ⟨by decide, by decide⟩ dX9_entry_224 ?_
                              rintro _ g1 s1 ⟨rfl, h8, h9⟩
                              replace h8 := h8.symm
                              subst h8
                              replace h9 := h9.symm
                              subst h9
                              refine z_iret X (by decide) (by decide) rfl dX9_entry_227 ?_
                              exact ⟨rfl, _, rfl, by rw [hτ]; exact zMP_2 (j := 2) (by unfold zx_entry; rw [if_neg (fun q => q ⟨c_6, c_14, c_23, c_32⟩), if_neg (fun q => by rcases q with q | ⟨q1, q2⟩ | ⟨q1, q2⟩; exact c_52 q; (first | exact c_57 q1 | exact q2 c_63); (first | exact c_69 q1 | exact q2 c_75)), zif_t (zmay_f e4 e5 eτ (by omega) (fun q => absurd (ht.mpr q) (by rw [c_219]; decide)))]) rfl⟩
                          · skip
                            try simp (disch := omega) only [zk0, nI_leI, nI_ltI, nI_eq, zbk_notn, zbk_not, zbk_n0, zbk_0, zb_0, zb_n0, zb_not, zb_notn, Bool.not_eq_false, Bool.not_eq_true, Bool.not_eq_true', Bool.not_eq_false', decide_eq_true_eq, decide_eq_false_iff_not, Classical.not_not] at c_109
                            refine z_aload_n X dX9_entry_112 rfl ?_
                            refine z_getr2 X fX9_16 (zso_21 hS) (zsr_21_4 hS) rfl dX9_entry_113 ?_
                            refine z_iconst (v := nI 4) X (by decide) dX9_entry_116 ?_
                            refine z_iload X dX9_entry_117 rfl ?_
                            refine z_imulN X dX9_entry_119 ?_
                            refine z_ialdN X (zsa_24 hS) (by omega) (by omega) dX9_entry_120 ?_
                            refine z_iload_n X dX9_entry_121 rfl ?_
                            refine z_icmp_ne (tgt := 176) X dX9_entry_122 (by decide) (fun c_122 => ?_) (fun c_122 => ?_)
                            · skip
                              refine z_iconst (v := nI 0) X (by decide) dX9_entry_176 ?_
                              refine z_istore X dX9_entry_177 (by decide) ?_
                              refine z_iload X dX9_entry_179 rfl ?_
                              refine z_if_eq (tgt := 208) X dX9_entry_181 (by decide) (fun c_181 => ?_) (fun c_181 => ?_)
                              · skip
                                try simp (disch := omega) only [zb_notn, zb_not, zb_n0, zb_0, Bool.not_eq_false, Bool.not_eq_true, Bool.not_eq_true', Bool.not_eq_false', decide_eq_true_eq, decide_eq_false_iff_not, Classical.not_not] at c_181
                                have hN : ¬ zmay (τ 24) (τ 23) ne (nI W) a b c9 d (k + 1) := fun q => by first | exact absurd (ht.mpr ⟨q.1, fun j hj => q.2 j (by omega)⟩) (by rw [c_181]; decide) | exact (q.2 k (by omega)).1 ⟨c_122, c_137, c_153, c_169⟩ | (have q9 := (q.2 k (by omega)).2; rw [eC] at q9; omega)
                                refine z_iconst (v := nI 0) X (by decide) dX9_entry_208 ?_
                                refine z_istore X dX9_entry_209 (by decide) ?_
                                refine z_inc1 X dX9_entry_211 rfl (by decide) ?_
                                refine z_goto (tgt := 103) X dX9_entry_214 (by decide) ?_
                                first | exact ih_103 (k + 1) true _ (by omega) ⟨fun _ => hY, fun _ => rfl⟩ (by omega) | exact ih_103 (k + 1) false _ (by omega) ⟨fun q => absurd q (by decide), fun q => absurd q hN⟩ (by omega)
                              · skip
                                try simp (disch := omega) only [zb_notn, zb_not, zb_n0, zb_0, Bool.not_eq_false, Bool.not_eq_true, Bool.not_eq_true', Bool.not_eq_false', decide_eq_true_eq, decide_eq_false_iff_not, Classical.not_not] at c_181
                                refine z_iload X dX9_entry_184 rfl ?_
                                refine z_if_ne (tgt := 208) X dX9_entry_186 (by decide) (fun c_186 => ?_) (fun c_186 => ?_)
                                · first | exact absurd c_186 (by decide) | exact absurd (by decide) c_186
                                · skip
                                  refine z_aload_n X dX9_entry_189 rfl ?_
                                  refine z_getr2 X fX9_13 (zso_21 hS) (zsr_21_3 hS) rfl dX9_entry_190 ?_
                                  refine z_iload X dX9_entry_193 rfl ?_
                                  refine z_ialdN X (zsa_23 hS) (by omega) (by omega) dX9_entry_195 ?_
                                  refine z_iload_n X dX9_entry_196 rfl ?_
                                  obtain ⟨Ck, hCk, eC⟩ := hCτ k (by omega)
                                  have hz5 := zpk_le (nI Ck) (nI W) 5
                                  replace hz5 : zp (nI Ck) (nI W) ≤ 5 := hz5
                                  rw [eC]
                                  refine z_runS X kX9_147 (tX9_parts _ _ (by omega) (by omega)) rfl rfl (Nat.le_of_ble_eq_true rfl) ⟨by decide, by decide⟩ ⟨by decide, by decide⟩ dX9_entry_197 ?_
                                  rintro _ g1 s1 ⟨rfl, h8, h9⟩
                                  replace h8 := h8.symm
                                  subst h8
                                  replace h9 := h9.symm
                                  subst h9
                                  refine z_iconst (v := nI 1) X (by decide) dX9_entry_200 ?_
                                  refine z_icmp_le (tgt := 208) X dX9_entry_201 (by decide) (fun c_201 => ?_) (fun c_201 => ?_)
                                  · skip
                                    try simp (disch := omega) only [zk0, nI_leI, nI_ltI, nI_eq, zbk_notn, zbk_not, zbk_n0, zbk_0, zb_0, zb_n0, zb_not, zb_notn, Bool.not_eq_false, Bool.not_eq_true, Bool.not_eq_true', Bool.not_eq_false', decide_eq_true_eq, decide_eq_false_iff_not, Classical.not_not] at c_201
                                    have hN : ¬ zmay (τ 24) (τ 23) ne (nI W) a b c9 d (k + 1) := fun q => by first | exact absurd (ht.mpr ⟨q.1, fun j hj => q.2 j (by omega)⟩) (by rw [c_181]; decide) | exact (q.2 k (by omega)).1 ⟨c_122, c_137, c_153, c_169⟩ | (have q9 := (q.2 k (by omega)).2; rw [eC] at q9; omega)
                                    refine z_iconst (v := nI 0) X (by decide) dX9_entry_208 ?_
                                    refine z_istore X dX9_entry_209 (by decide) ?_
                                    refine z_inc1 X dX9_entry_211 rfl (by decide) ?_
                                    refine z_goto (tgt := 103) X dX9_entry_214 (by decide) ?_
                                    first | exact ih_103 (k + 1) true _ (by omega) ⟨fun _ => hY, fun _ => rfl⟩ (by omega) | exact ih_103 (k + 1) false _ (by omega) ⟨fun q => absurd q (by decide), fun q => absurd q hN⟩ (by omega)
                                  · skip
                                    try simp (disch := omega) only [zk0, nI_leI, nI_ltI, nI_eq, zbk_notn, zbk_not, zbk_n0, zbk_0, zb_0, zb_n0, zb_not, zb_notn, Bool.not_eq_false, Bool.not_eq_true, Bool.not_eq_true', Bool.not_eq_false', decide_eq_true_eq, decide_eq_false_iff_not, Classical.not_not] at c_201
                                    have hY : zmay (τ 24) (τ 23) ne (nI W) a b c9 d (k + 1) := ⟨(ht.mp c_181).1, fun j hj => by rcases Nat.lt_or_ge j k with h | h; exact (ht.mp c_181).2 j h; (have e : j = k := by omega); subst e; exact ⟨fun q => by first | exact c_122 q.1 | exact c_137 q.2.1 | exact c_153 q.2.2.1 | exact c_169 q.2.2.2, by rw [eC]; omega⟩⟩
                                    refine z_iconst (v := nI 1) X (by decide) dX9_entry_204 ?_
                                    refine z_goto (tgt := 209) X dX9_entry_205 (by decide) ?_
                                    refine z_istore X dX9_entry_209 (by decide) ?_
                                    refine z_inc1 X dX9_entry_211 rfl (by decide) ?_
                                    refine z_goto (tgt := 103) X dX9_entry_214 (by decide) ?_
                                    first | exact ih_103 (k + 1) true _ (by omega) ⟨fun _ => hY, fun _ => rfl⟩ (by omega) | exact ih_103 (k + 1) false _ (by omega) ⟨fun q => absurd q (by decide), fun q => absurd q hN⟩ (by omega)
                            · skip
                              refine z_aload_n X dX9_entry_125 rfl ?_
                              refine z_getr2 X fX9_16 (zso_21 hS) (zsr_21_4 hS) rfl dX9_entry_126 ?_
                              refine z_iconst (v := nI 4) X (by decide) dX9_entry_129 ?_
                              refine z_iload X dX9_entry_130 rfl ?_
                              refine z_imulN X dX9_entry_132 ?_
                              refine z_iconst (v := nI 1) X (by decide) dX9_entry_133 ?_
                              refine z_iaddN X dX9_entry_134 ?_
                              refine z_ialdN X (zsa_24 hS) (by omega) (by omega) dX9_entry_135 ?_
                              refine z_iload_n X dX9_entry_136 rfl ?_
                              refine z_icmp_ne (tgt := 176) X dX9_entry_137 (by decide) (fun c_137 => ?_) (fun c_137 => ?_)
                              · skip
                                refine z_iconst (v := nI 0) X (by decide) dX9_entry_176 ?_
                                refine z_istore X dX9_entry_177 (by decide) ?_
                                refine z_iload X dX9_entry_179 rfl ?_
                                refine z_if_eq (tgt := 208) X dX9_entry_181 (by decide) (fun c_181 => ?_) (fun c_181 => ?_)
                                · skip
                                  try simp (disch := omega) only [zb_notn, zb_not, zb_n0, zb_0, Bool.not_eq_false, Bool.not_eq_true, Bool.not_eq_true', Bool.not_eq_false', decide_eq_true_eq, decide_eq_false_iff_not, Classical.not_not] at c_181
                                  have hN : ¬ zmay (τ 24) (τ 23) ne (nI W) a b c9 d (k + 1) := fun q => by first | exact absurd (ht.mpr ⟨q.1, fun j hj => q.2 j (by omega)⟩) (by rw [c_181]; decide) | exact (q.2 k (by omega)).1 ⟨c_122, c_137, c_153, c_169⟩ | (have q9 := (q.2 k (by omega)).2; rw [eC] at q9; omega)
                                  refine z_iconst (v := nI 0) X (by decide) dX9_entry_208 ?_
                                  refine z_istore X dX9_entry_209 (by decide) ?_
                                  refine z_inc1 X dX9_entry_211 rfl (by decide) ?_
                                  refine z_goto (tgt := 103) X dX9_entry_214 (by decide) ?_
                                  first | exact ih_103 (k + 1) true _ (by omega) ⟨fun _ => hY, fun _ => rfl⟩ (by omega) | exact ih_103 (k + 1) false _ (by omega) ⟨fun q => absurd q (by decide), fun q => absurd q hN⟩ (by omega)
                                · skip
                                  try simp (disch := omega) only [zb_notn, zb_not, zb_n0, zb_0, Bool.not_eq_false, Bool.not_eq_true, Bool.not_eq_true', Bool.not_eq_false', decide_eq_true_eq, decide_eq_false_iff_not, Classical.not_not] at c_181
                                  refine z_iload X dX9_entry_184 rfl ?_
                                  refine z_if_ne (tgt := 208) X dX9_entry_186 (by decide) (fun c_186 => ?_) (fun c_186 => ?_)
                                  · first | exact absurd c_186 (by decide) | exact absurd (by decide) c_186
                                  · skip
                                    refine z_aload_n X dX9_entry_189 rfl ?_
                                    refine z_getr2 X fX9_13 (zso_21 hS) (zsr_21_3 hS) rfl dX9_entry_190 ?_
                                    refine z_iload X dX9_entry_193 rfl ?_
                                    refine z_ialdN X (zsa_23 hS) (by omega) (by omega) dX9_entry_195 ?_
                                    refine z_iload_n X dX9_entry_196 rfl ?_
                                    obtain ⟨Ck, hCk, eC⟩ := hCτ k (by omega)
                                    have hz5 := zpk_le (nI Ck) (nI W) 5
                                    replace hz5 : zp (nI Ck) (nI W) ≤ 5 := hz5
                                    rw [eC]
                                    refine z_runS X kX9_147 (tX9_parts _ _ (by omega) (by omega)) rfl rfl (Nat.le_of_ble_eq_true rfl) ⟨by decide, by decide⟩ ⟨by decide, by decide⟩ dX9_entry_197 ?_
                                    rintro _ g1 s1 ⟨rfl, h8, h9⟩
                                    replace h8 := h8.symm
                                    subst h8
                                    replace h9 := h9.symm
                                    subst h9
                                    refine z_iconst (v := nI 1) X (by decide) dX9_entry_200 ?_
                                    refine z_icmp_le (tgt := 208) X dX9_entry_201 (by decide) (fun c_201 => ?_) (fun c_201 => ?_)
                                    · skip
                                      try simp (disch := omega) only [zk0, nI_leI, nI_ltI, nI_eq, zbk_notn, zbk_not, zbk_n0, zbk_0, zb_0, zb_n0, zb_not, zb_notn, Bool.not_eq_false, Bool.not_eq_true, Bool.not_eq_true', Bool.not_eq_false', decide_eq_true_eq, decide_eq_false_iff_not, Classical.not_not] at c_201
                                      have hN : ¬ zmay (τ 24) (τ 23) ne (nI W) a b c9 d (k + 1) := fun q => by first | exact absurd (ht.mpr ⟨q.1, fun j hj => q.2 j (by omega)⟩) (by rw [c_181]; decide) | exact (q.2 k (by omega)).1 ⟨c_122, c_137, c_153, c_169⟩ | (have q9 := (q.2 k (by omega)).2; rw [eC] at q9; omega)
                                      refine z_iconst (v := nI 0) X (by decide) dX9_entry_208 ?_
                                      refine z_istore X dX9_entry_209 (by decide) ?_
                                      refine z_inc1 X dX9_entry_211 rfl (by decide) ?_
                                      refine z_goto (tgt := 103) X dX9_entry_214 (by decide) ?_
                                      first | exact ih_103 (k + 1) true _ (by omega) ⟨fun _ => hY, fun _ => rfl⟩ (by omega) | exact ih_103 (k + 1) false _ (by omega) ⟨fun q => absurd q (by decide), fun q => absurd q hN⟩ (by omega)
                                    · skip
                                      try simp (disch := omega) only [zk0, nI_leI, nI_ltI, nI_eq, zbk_notn, zbk_not, zbk_n0, zbk_0, zb_0, zb_n0, zb_not, zb_notn, Bool.not_eq_false, Bool.not_eq_true, Bool.not_eq_true', Bool.not_eq_false', decide_eq_true_eq, decide_eq_false_iff_not, Classical.not_not] at c_201
                                      have hY : zmay (τ 24) (τ 23) ne (nI W) a b c9 d (k + 1) := ⟨(ht.mp c_181).1, fun j hj => by rcases Nat.lt_or_ge j k with h | h; exact (ht.mp c_181).2 j h; (have e : j = k := by omega); subst e; exact ⟨fun q => by first | exact c_122 q.1 | exact c_137 q.2.1 | exact c_153 q.2.2.1 | exact c_169 q.2.2.2, by rw [eC]; omega⟩⟩
                                      refine z_iconst (v := nI 1) X (by decide) dX9_entry_204 ?_
                                      refine z_goto (tgt := 209) X dX9_entry_205 (by decide) ?_
                                      refine z_istore X dX9_entry_209 (by decide) ?_
                                      refine z_inc1 X dX9_entry_211 rfl (by decide) ?_
                                      refine z_goto (tgt := 103) X dX9_entry_214 (by decide) ?_
                                      first | exact ih_103 (k + 1) true _ (by omega) ⟨fun _ => hY, fun _ => rfl⟩ (by omega) | exact ih_103 (k + 1) false _ (by omega) ⟨fun q => absurd q (by decide), fun q => absurd q hN⟩ (by omega)
                              · skip
                                refine z_aload_n X dX9_entry_140 rfl ?_
                                refine z_getr2 X fX9_16 (zso_21 hS) (zsr_21_4 hS) rfl dX9_entry_141 ?_
                                refine z_iconst (v := nI 4) X (by decide) dX9_entry_144 ?_
                                refine z_iload X dX9_entry_145 rfl ?_
                                refine z_imulN X dX9_entry_147 ?_
                                refine z_iconst (v := nI 2) X (by decide) dX9_entry_148 ?_
                                refine z_iaddN X dX9_entry_149 ?_
                                refine z_ialdN X (zsa_24 hS) (by omega) (by omega) dX9_entry_150 ?_
                                refine z_iload X dX9_entry_151 rfl ?_
                                refine z_icmp_ne (tgt := 176) X dX9_entry_153 (by decide) (fun c_153 => ?_) (fun c_153 => ?_)
                                · skip
                                  refine z_iconst (v := nI 0) X (by decide) dX9_entry_176 ?_
                                  refine z_istore X dX9_entry_177 (by decide) ?_
                                  refine z_iload X dX9_entry_179 rfl ?_
                                  refine z_if_eq (tgt := 208) X dX9_entry_181 (by decide) (fun c_181 => ?_) (fun c_181 => ?_)
                                  · skip
                                    try simp (disch := omega) only [zb_notn, zb_not, zb_n0, zb_0, Bool.not_eq_false, Bool.not_eq_true, Bool.not_eq_true', Bool.not_eq_false', decide_eq_true_eq, decide_eq_false_iff_not, Classical.not_not] at c_181
                                    have hN : ¬ zmay (τ 24) (τ 23) ne (nI W) a b c9 d (k + 1) := fun q => by first | exact absurd (ht.mpr ⟨q.1, fun j hj => q.2 j (by omega)⟩) (by rw [c_181]; decide) | exact (q.2 k (by omega)).1 ⟨c_122, c_137, c_153, c_169⟩ | (have q9 := (q.2 k (by omega)).2; rw [eC] at q9; omega)
                                    refine z_iconst (v := nI 0) X (by decide) dX9_entry_208 ?_
                                    refine z_istore X dX9_entry_209 (by decide) ?_
                                    refine z_inc1 X dX9_entry_211 rfl (by decide) ?_
                                    refine z_goto (tgt := 103) X dX9_entry_214 (by decide) ?_
                                    first | exact ih_103 (k + 1) true _ (by omega) ⟨fun _ => hY, fun _ => rfl⟩ (by omega) | exact ih_103 (k + 1) false _ (by omega) ⟨fun q => absurd q (by decide), fun q => absurd q hN⟩ (by omega)
                                  · skip
                                    try simp (disch := omega) only [zb_notn, zb_not, zb_n0, zb_0, Bool.not_eq_false, Bool.not_eq_true, Bool.not_eq_true', Bool.not_eq_false', decide_eq_true_eq, decide_eq_false_iff_not, Classical.not_not] at c_181
                                    refine z_iload X dX9_entry_184 rfl ?_
                                    refine z_if_ne (tgt := 208) X dX9_entry_186 (by decide) (fun c_186 => ?_) (fun c_186 => ?_)
                                    · first | exact absurd c_186 (by decide) | exact absurd (by decide) c_186
                                    · skip
                                      refine z_aload_n X dX9_entry_189 rfl ?_
                                      refine z_getr2 X fX9_13 (zso_21 hS) (zsr_21_3 hS) rfl dX9_entry_190 ?_
                                      refine z_iload X dX9_entry_193 rfl ?_
                                      refine z_ialdN X (zsa_23 hS) (by omega) (by omega) dX9_entry_195 ?_
                                      refine z_iload_n X dX9_entry_196 rfl ?_
                                      obtain ⟨Ck, hCk, eC⟩ := hCτ k (by omega)
                                      have hz5 := zpk_le (nI Ck) (nI W) 5
                                      replace hz5 : zp (nI Ck) (nI W) ≤ 5 := hz5
                                      rw [eC]
                                      refine z_runS X kX9_147 (tX9_parts _ _ (by omega) (by omega)) rfl rfl (Nat.le_of_ble_eq_true rfl) ⟨by decide, by decide⟩ ⟨by decide, by decide⟩ dX9_entry_197 ?_
                                      rintro _ g1 s1 ⟨rfl, h8, h9⟩
                                      replace h8 := h8.symm
                                      subst h8
                                      replace h9 := h9.symm
                                      subst h9
                                      refine z_iconst (v := nI 1) X (by decide) dX9_entry_200 ?_
                                      refine z_icmp_le (tgt := 208) X dX9_entry_201 (by decide) (fun c_201 => ?_) (fun c_201 => ?_)
                                      · skip
                                        try simp (disch := omega) only [zk0, nI_leI, nI_ltI, nI_eq, zbk_notn, zbk_not, zbk_n0, zbk_0, zb_0, zb_n0, zb_not, zb_notn, Bool.not_eq_false, Bool.not_eq_true, Bool.not_eq_true', Bool.not_eq_false', decide_eq_true_eq, decide_eq_false_iff_not, Classical.not_not] at c_201
                                        have hN : ¬ zmay (τ 24) (τ 23) ne (nI W) a b c9 d (k + 1) := fun q => by first | exact absurd (ht.mpr ⟨q.1, fun j hj => q.2 j (by omega)⟩) (by rw [c_181]; decide) | exact (q.2 k (by omega)).1 ⟨c_122, c_137, c_153, c_169⟩ | (have q9 := (q.2 k (by omega)).2; rw [eC] at q9; omega)
                                        refine z_iconst (v := nI 0) X (by decide) dX9_entry_208 ?_
                                        refine z_istore X dX9_entry_209 (by decide) ?_
                                        refine z_inc1 X dX9_entry_211 rfl (by decide) ?_
                                        refine z_goto (tgt := 103) X dX9_entry_214 (by decide) ?_
                                        first | exact ih_103 (k + 1) true _ (by omega) ⟨fun _ => hY, fun _ => rfl⟩ (by omega) | exact ih_103 (k + 1) false _ (by omega) ⟨fun q => absurd q (by decide), fun q => absurd q hN⟩ (by omega)
                                      · skip
                                        try simp (disch := omega) only [zk0, nI_leI, nI_ltI, nI_eq, zbk_notn, zbk_not, zbk_n0, zbk_0, zb_0, zb_n0, zb_not, zb_notn, Bool.not_eq_false, Bool.not_eq_true, Bool.not_eq_true', Bool.not_eq_false', decide_eq_true_eq, decide_eq_false_iff_not, Classical.not_not] at c_201
                                        have hY : zmay (τ 24) (τ 23) ne (nI W) a b c9 d (k + 1) := ⟨(ht.mp c_181).1, fun j hj => by rcases Nat.lt_or_ge j k with h | h; exact (ht.mp c_181).2 j h; (have e : j = k := by omega); subst e; exact ⟨fun q => by first | exact c_122 q.1 | exact c_137 q.2.1 | exact c_153 q.2.2.1 | exact c_169 q.2.2.2, by rw [eC]; omega⟩⟩
                                        refine z_iconst (v := nI 1) X (by decide) dX9_entry_204 ?_
                                        refine z_goto (tgt := 209) X dX9_entry_205 (by decide) ?_
                                        refine z_istore X dX9_entry_209 (by decide) ?_
                                        refine z_inc1 X dX9_entry_211 rfl (by decide) ?_
                                        refine z_goto (tgt := 103) X dX9_entry_214 (by decide) ?_
                                        first | exact ih_103 (k + 1) true _ (by omega) ⟨fun _ => hY, fun _ => rfl⟩ (by omega) | exact ih_103 (k + 1) false _ (by omega) ⟨fun q => absurd q (by decide), fun q => absurd q hN⟩ (by omega)
                                · skip
                                  refine z_aload_n X dX9_entry_156 rfl ?_
                                  refine z_getr2 X fX9_16 (zso_21 hS) (zsr_21_4 hS) rfl dX9_entry_157 ?_
                                  refine z_iconst (v := nI 4) X (by decide) dX9_entry_160 ?_
                                  refine z_iload X dX9_entry_161 rfl ?_
                                  refine z_imulN X dX9_entry_163 ?_
                                  refine z_iconst (v := nI 3) X (by decide) dX9_entry_164 ?_
                                  refine z_iaddN X dX9_entry_165 ?_
                                  refine z_ialdN X (zsa_24 hS) (by omega) (by omega) dX9_entry_166 ?_
                                  refine z_iload X dX9_entry_167 rfl ?_
                                  refine z_icmp_ne (tgt := 176) X dX9_entry_169 (by decide) (fun c_169 => ?_) (fun c_169 => ?_)
                                  · skip
                                    refine z_iconst (v := nI 0) X (by decide) dX9_entry_176 ?_
                                    refine z_istore X dX9_entry_177 (by decide) ?_
                                    refine z_iload X dX9_entry_179 rfl ?_
                                    refine z_if_eq (tgt := 208) X dX9_entry_181 (by decide) (fun c_181 => ?_) (fun c_181 => ?_)
                                    · skip
                                      try simp (disch := omega) only [zb_notn, zb_not, zb_n0, zb_0, Bool.not_eq_false, Bool.not_eq_true, Bool.not_eq_true', Bool.not_eq_false', decide_eq_true_eq, decide_eq_false_iff_not, Classical.not_not] at c_181
                                      have hN : ¬ zmay (τ 24) (τ 23) ne (nI W) a b c9 d (k + 1) := fun q => by first | exact absurd (ht.mpr ⟨q.1, fun j hj => q.2 j (by omega)⟩) (by rw [c_181]; decide) | exact (q.2 k (by omega)).1 ⟨c_122, c_137, c_153, c_169⟩ | (have q9 := (q.2 k (by omega)).2; rw [eC] at q9; omega)
                                      refine z_iconst (v := nI 0) X (by decide) dX9_entry_208 ?_
                                      refine z_istore X dX9_entry_209 (by decide) ?_
                                      refine z_inc1 X dX9_entry_211 rfl (by decide) ?_
                                      refine z_goto (tgt := 103) X dX9_entry_214 (by decide) ?_
                                      first | exact ih_103 (k + 1) true _ (by omega) ⟨fun _ => hY, fun _ => rfl⟩ (by omega) | exact ih_103 (k + 1) false _ (by omega) ⟨fun q => absurd q (by decide), fun q => absurd q hN⟩ (by omega)
                                    · skip
                                      try simp (disch := omega) only [zb_notn, zb_not, zb_n0, zb_0, Bool.not_eq_false, Bool.not_eq_true, Bool.not_eq_true', Bool.not_eq_false', decide_eq_true_eq, decide_eq_false_iff_not, Classical.not_not] at c_181
                                      refine z_iload X dX9_entry_184 rfl ?_
                                      refine z_if_ne (tgt := 208) X dX9_entry_186 (by decide) (fun c_186 => ?_) (fun c_186 => ?_)
                                      · first | exact absurd c_186 (by decide) | exact absurd (by decide) c_186
                                      · skip
                                        refine z_aload_n X dX9_entry_189 rfl ?_
                                        refine z_getr2 X fX9_13 (zso_21 hS) (zsr_21_3 hS) rfl dX9_entry_190 ?_
                                        refine z_iload X dX9_entry_193 rfl ?_
                                        refine z_ialdN X (zsa_23 hS) (by omega) (by omega) dX9_entry_195 ?_
                                        refine z_iload_n X dX9_entry_196 rfl ?_
                                        obtain ⟨Ck, hCk, eC⟩ := hCτ k (by omega)
                                        have hz5 := zpk_le (nI Ck) (nI W) 5
                                        replace hz5 : zp (nI Ck) (nI W) ≤ 5 := hz5
                                        rw [eC]
                                        refine z_runS X kX9_147 (tX9_parts _ _ (by omega) (by omega)) rfl rfl (Nat.le_of_ble_eq_true rfl) ⟨by decide, by decide⟩ ⟨by decide, by decide⟩ dX9_entry_197 ?_
                                        rintro _ g1 s1 ⟨rfl, h8, h9⟩
                                        replace h8 := h8.symm
                                        subst h8
                                        replace h9 := h9.symm
                                        subst h9
                                        refine z_iconst (v := nI 1) X (by decide) dX9_entry_200 ?_
                                        refine z_icmp_le (tgt := 208) X dX9_entry_201 (by decide) (fun c_201 => ?_) (fun c_201 => ?_)
                                        · skip
                                          try simp (disch := omega) only [zk0, nI_leI, nI_ltI, nI_eq, zbk_notn, zbk_not, zbk_n0, zbk_0, zb_0, zb_n0, zb_not, zb_notn, Bool.not_eq_false, Bool.not_eq_true, Bool.not_eq_true', Bool.not_eq_false', decide_eq_true_eq, decide_eq_false_iff_not, Classical.not_not] at c_201
                                          have hN : ¬ zmay (τ 24) (τ 23) ne (nI W) a b c9 d (k + 1) := fun q => by first | exact absurd (ht.mpr ⟨q.1, fun j hj => q.2 j (by omega)⟩) (by rw [c_181]; decide) | exact (q.2 k (by omega)).1 ⟨c_122, c_137, c_153, c_169⟩ | (have q9 := (q.2 k (by omega)).2; rw [eC] at q9; omega)
                                          refine z_iconst (v := nI 0) X (by decide) dX9_entry_208 ?_
                                          refine z_istore X dX9_entry_209 (by decide) ?_
                                          refine z_inc1 X dX9_entry_211 rfl (by decide) ?_
                                          refine z_goto (tgt := 103) X dX9_entry_214 (by decide) ?_
                                          first | exact ih_103 (k + 1) true _ (by omega) ⟨fun _ => hY, fun _ => rfl⟩ (by omega) | exact ih_103 (k + 1) false _ (by omega) ⟨fun q => absurd q (by decide), fun q => absurd q hN⟩ (by omega)
                                        · skip
                                          try simp (disch := omega) only [zk0, nI_leI, nI_ltI, nI_eq, zbk_notn, zbk_not, zbk_n0, zbk_0, zb_0, zb_n0, zb_not, zb_notn, Bool.not_eq_false, Bool.not_eq_true, Bool.not_eq_true', Bool.not_eq_false', decide_eq_true_eq, decide_eq_false_iff_not, Classical.not_not] at c_201
                                          have hY : zmay (τ 24) (τ 23) ne (nI W) a b c9 d (k + 1) := ⟨(ht.mp c_181).1, fun j hj => by rcases Nat.lt_or_ge j k with h | h; exact (ht.mp c_181).2 j h; (have e : j = k := by omega); subst e; exact ⟨fun q => by first | exact c_122 q.1 | exact c_137 q.2.1 | exact c_153 q.2.2.1 | exact c_169 q.2.2.2, by rw [eC]; omega⟩⟩
                                          refine z_iconst (v := nI 1) X (by decide) dX9_entry_204 ?_
                                          refine z_goto (tgt := 209) X dX9_entry_205 (by decide) ?_
                                          refine z_istore X dX9_entry_209 (by decide) ?_
                                          refine z_inc1 X dX9_entry_211 rfl (by decide) ?_
                                          refine z_goto (tgt := 103) X dX9_entry_214 (by decide) ?_
                                          first | exact ih_103 (k + 1) true _ (by omega) ⟨fun _ => hY, fun _ => rfl⟩ (by omega) | exact ih_103 (k + 1) false _ (by omega) ⟨fun q => absurd q (by decide), fun q => absurd q hN⟩ (by omega)
                                  · skip
                                    refine z_iconst (v := nI 1) X (by decide) dX9_entry_172 ?_
                                    refine z_goto (tgt := 177) X dX9_entry_173 (by decide) ?_
                                    refine z_istore X dX9_entry_177 (by decide) ?_
                                    refine z_iload X dX9_entry_179 rfl ?_
                                    refine z_if_eq (tgt := 208) X dX9_entry_181 (by decide) (fun c_181 => ?_) (fun c_181 => ?_)
                                    · skip
                                      try simp (disch := omega) only [zb_notn, zb_not, zb_n0, zb_0, Bool.not_eq_false, Bool.not_eq_true, Bool.not_eq_true', Bool.not_eq_false', decide_eq_true_eq, decide_eq_false_iff_not, Classical.not_not] at c_181
                                      have hN : ¬ zmay (τ 24) (τ 23) ne (nI W) a b c9 d (k + 1) := fun q => by first | exact absurd (ht.mpr ⟨q.1, fun j hj => q.2 j (by omega)⟩) (by rw [c_181]; decide) | exact (q.2 k (by omega)).1 ⟨c_122, c_137, c_153, c_169⟩ | (have q9 := (q.2 k (by omega)).2; rw [eC] at q9; omega)
                                      refine z_iconst (v := nI 0) X (by decide) dX9_entry_208 ?_
                                      refine z_istore X dX9_entry_209 (by decide) ?_
                                      refine z_inc1 X dX9_entry_211 rfl (by decide) ?_
                                      refine z_goto (tgt := 103) X dX9_entry_214 (by decide) ?_
                                      first | exact ih_103 (k + 1) true _ (by omega) ⟨fun _ => hY, fun _ => rfl⟩ (by omega) | exact ih_103 (k + 1) false _ (by omega) ⟨fun q => absurd q (by decide), fun q => absurd q hN⟩ (by omega)
                                    · skip
                                      try simp (disch := omega) only [zb_notn, zb_not, zb_n0, zb_0, Bool.not_eq_false, Bool.not_eq_true, Bool.not_eq_true', Bool.not_eq_false', decide_eq_true_eq, decide_eq_false_iff_not, Classical.not_not] at c_181
                                      refine z_iload X dX9_entry_184 rfl ?_
                                      refine z_if_ne (tgt := 208) X dX9_entry_186 (by decide) (fun c_186 => ?_) (fun c_186 => ?_)
                                      · skip
                                        have hN : ¬ zmay (τ 24) (τ 23) ne (nI W) a b c9 d (k + 1) := fun q => by first | exact absurd (ht.mpr ⟨q.1, fun j hj => q.2 j (by omega)⟩) (by rw [c_181]; decide) | exact (q.2 k (by omega)).1 ⟨c_122, c_137, c_153, c_169⟩ | (have q9 := (q.2 k (by omega)).2; rw [eC] at q9; omega)
                                        refine z_iconst (v := nI 0) X (by decide) dX9_entry_208 ?_
                                        refine z_istore X dX9_entry_209 (by decide) ?_
                                        refine z_inc1 X dX9_entry_211 rfl (by decide) ?_
                                        refine z_goto (tgt := 103) X dX9_entry_214 (by decide) ?_
                                        first | exact ih_103 (k + 1) true _ (by omega) ⟨fun _ => hY, fun _ => rfl⟩ (by omega) | exact ih_103 (k + 1) false _ (by omega) ⟨fun q => absurd q (by decide), fun q => absurd q hN⟩ (by omega)
                                      · first | exact absurd c_186 (by decide) | exact absurd (by decide) c_186
                      refine z_iconst (v := nI 0) X (by decide) dX9_entry_100 ?_
                      refine z_istore X dX9_entry_101 (by decide) ?_
                      exact loop_103 (ne - 0 + 1) 0 _ _ (Nat.zero_le _) ht0 (by omega)
                    · skip
                      try simp (disch := omega) only [zk0, nI_leI, nI_ltI, nI_eq, zbk_notn, zbk_not, zbk_n0, zbk_0, zb_0, zb_n0, zb_not, zb_notn, Bool.not_eq_false, Bool.not_eq_true, Bool.not_eq_true', Bool.not_eq_false', decide_eq_true_eq, decide_eq_false_iff_not, Classical.not_not] at c_90
                      refine z_iconst (v := nI 1) X (by decide) dX9_entry_93 ?_
                      refine z_goto (tgt := 98) X dX9_entry_94 (by decide) ?_
                      first | (have ht0 : true = true ↔ zmay (τ 24) (τ 23) ne (nI W) a b c9 d 0 := ⟨fun _ => ⟨by omega, fun j hj => absurd hj (Nat.not_lt_zero _)⟩, fun _ => rfl⟩; rw [show Value.int (nI 1) = Value.int (zb true) from rfl]) | (have ht0 : false = true ↔ zmay (τ 24) (τ 23) ne (nI W) a b c9 d 0 := ⟨fun q => absurd q (by decide), fun q => by have := q.1; omega⟩; rw [show Value.int (nI 0) = Value.int (zb false) from rfl])
                      refine z_istore X dX9_entry_98 (by decide) ?_
                      have loop_103 : ∀ (n : Nat) (k : Nat) (t : Bool) (v8 : Option Value) (hk : k ≤ ne) (ht : t = true ↔ zmay (τ 24) (τ 23) ne (nI W) a b c9 d k) (hn : ne - k < n), z_V p l e (zRm MX9_entry) s m args below meth c 9 D cy z0 0 0 (zQm MX9_entry below D cy z0 (fun v g' σ' => g' = g ∧ ∃ r, v = some (.int r) ∧ zMP (zx_entry ρ ni ne (nI W) a b c9 d) σ σ' (r = nI ne ∧ σ' = z_up (z_up (z_up (z_up (z_up (z_up (z_up σ 21 48 0) 23 ne (nI W)) 24 (4 * ne) a) 24 (4 * ne + 1) b) 24 (4 * ne + 2) c9) 24 (4 * ne + 3) d) 21 2 (nI (ne + 1)))) args s) 103 [some (.ref (g.2.1 21)), some (.int (nI W)), some (.int a), some (.int b), some (.int c9), some (.int d), some (.int (zb t)), some (.int (nI k)), v8] [] g τ := by
                        intro n
                        induction n with
                        | zero => intro k t v8 hk ht hn; exact absurd hn (Nat.not_lt_zero _)
                        | succ n ih_103 =>
                          intro k t v8 hk ht hn
                          refine z_iload X dX9_entry_103 rfl ?_
                          refine z_aload_n X dX9_entry_105 rfl ?_
                          refine z_geti X fX9_168 (zso_21 hS) rfl dX9_entry_106 ?_
                          rw [heτ]
                          refine z_icmp_ge (tgt := 217) X dX9_entry_109 (by decide) (fun c_109 => ?_) (fun c_109 => ?_)
                          · skip
                            try simp (disch := omega) only [zk0, nI_leI, nI_ltI, nI_eq, zbk_notn, zbk_not, zbk_n0, zbk_0, zb_0, zb_n0, zb_not, zb_notn, Bool.not_eq_false, Bool.not_eq_true, Bool.not_eq_true', Bool.not_eq_false', decide_eq_true_eq, decide_eq_false_iff_not, Classical.not_not] at c_109
                            have e : ne = k := by omega
                            subst e
                            refine z_iload X dX9_entry_217 rfl ?_
                            refine z_if_ne (tgt := 228) X dX9_entry_219 (by decide) (fun c_219 => ?_) (fun c_219 => ?_)
                            · skip
                              try simp (disch := omega) only [zb_notn, zb_not, zb_n0, zb_0, Bool.not_eq_false, Bool.not_eq_true, Bool.not_eq_true', Bool.not_eq_false', decide_eq_true_eq, decide_eq_false_iff_not, Classical.not_not] at c_219
                              have h40 : ne < 40 := (ht.mp c_219).1
                              refine z_aload_n X dX9_entry_228 rfl ?_
                              refine z_getr2 X fX9_13 (zso_21 hS) (zsr_21_3 hS) rfl dX9_entry_229 ?_
                              refine z_aload_n X dX9_entry_232 rfl ?_
                              refine z_geti X fX9_168 (zso_21 hS) rfl dX9_entry_233 ?_
                              rw [heτ]
                              refine z_iload_n X dX9_entry_236 rfl ?_
                              refine z_iastN X (zsa_23 hS) (by omega) (by omega) dX9_entry_237 ?_
                              refine z_aload_n X dX9_entry_238 rfl ?_
                              refine z_getr2 X fX9_16 (zso_21 hS) (zsr_21_4 hS) rfl dX9_entry_239 ?_
                              refine z_iconst (v := nI 4) X (by decide) dX9_entry_242 ?_
                              refine z_aload_n X dX9_entry_243 rfl ?_
                              refine z_geti X fX9_168 (zso_21 hS) rfl dX9_entry_244 ?_
                              repeat rw [z_up_ne (by decide)]
                              rw [heτ]
                              refine z_imulN X dX9_entry_247 ?_
                              refine z_iload_n X dX9_entry_248 rfl ?_
                              refine z_iastN X (zsa_24 hS) (by omega) (by omega) dX9_entry_249 ?_
                              refine z_aload_n X dX9_entry_250 rfl ?_
                              refine z_getr2 X fX9_16 (zso_21 hS) (zsr_21_4 hS) rfl dX9_entry_251 ?_
                              refine z_iconst (v := nI 4) X (by decide) dX9_entry_254 ?_
                              refine z_aload_n X dX9_entry_255 rfl ?_
                              refine z_geti X fX9_168 (zso_21 hS) rfl dX9_entry_256 ?_
                              repeat rw [z_up_ne (by decide)]
                              rw [heτ]
                              refine z_imulN X dX9_entry_259 ?_
                              refine z_iconst (v := nI 1) X (by decide) dX9_entry_260 ?_
                              refine z_iaddN X dX9_entry_261 ?_
                              refine z_iload_n X dX9_entry_262 rfl ?_
                              refine z_iastN X (zsa_24 hS) (by omega) (by omega) dX9_entry_263 ?_
                              refine z_aload_n X dX9_entry_264 rfl ?_
                              refine z_getr2 X fX9_16 (zso_21 hS) (zsr_21_4 hS) rfl dX9_entry_265 ?_
                              refine z_iconst (v := nI 4) X (by decide) dX9_entry_268 ?_
                              refine z_aload_n X dX9_entry_269 rfl ?_
                              refine z_geti X fX9_168 (zso_21 hS) rfl dX9_entry_270 ?_
                              repeat rw [z_up_ne (by decide)]
                              rw [heτ]
                              refine z_imulN X dX9_entry_273 ?_
                              refine z_iconst (v := nI 2) X (by decide) dX9_entry_274 ?_
                              refine z_iaddN X dX9_entry_275 ?_
                              refine z_iload X dX9_entry_276 rfl ?_
                              refine z_iastN X (zsa_24 hS) (by omega) (by omega) dX9_entry_278 ?_
                              refine z_aload_n X dX9_entry_279 rfl ?_
                              refine z_getr2 X fX9_16 (zso_21 hS) (zsr_21_4 hS) rfl dX9_entry_280 ?_
                              refine z_iconst (v := nI 4) X (by decide) dX9_entry_283 ?_
                              refine z_aload_n X dX9_entry_284 rfl ?_
                              refine z_geti X fX9_168 (zso_21 hS) rfl dX9_entry_285 ?_
                              repeat rw [z_up_ne (by decide)]
                              rw [heτ]
                              refine z_imulN X dX9_entry_288 ?_
                              refine z_iconst (v := nI 3) X (by decide) dX9_entry_289 ?_
                              refine z_iaddN X dX9_entry_290 ?_
                              refine z_iload X dX9_entry_291 rfl ?_
                              refine z_iastN X (zsa_24 hS) (by omega) (by omega) dX9_entry_293 ?_
                              refine z_aload_n X dX9_entry_294 rfl ?_
                              refine z_dup X rfl dX9_entry_295 ?_
                              refine z_geti X fX9_168 (zso_21 hS) rfl dX9_entry_296 ?_
                              repeat rw [z_up_ne (by decide)]
                              rw [heτ]
                              refine z_iconst (v := nI 1) X (by decide) dX9_entry_299 ?_
                              refine z_iaddN X dX9_entry_300 ?_
                              refine z_puti X fX9_168 (zso_21 hS) rfl dX9_entry_301 ?_
                              refine z_aload_n X dX9_entry_304 rfl ?_
                              refine z_geti X fX9_168 (zso_21 hS) rfl dX9_entry_305 ?_
                              rw [z_up_app, if_pos rfl, if_pos rfl]
                              refine z_iconst (v := nI 1) X (by decide) dX9_entry_308 ?_
                              refine z_isubN X (by omega) dX9_entry_309 ?_
                              refine z_iret X (by decide) (by decide) rfl dX9_entry_310 ?_
                              exact ⟨rfl, _, rfl, Or.inr ⟨by unfold zx_entry; rw [if_neg (fun q => q ⟨c_6, c_14, c_23, c_32⟩), if_neg (fun q => by rcases q with q | ⟨q1, q2⟩ | ⟨q1, q2⟩; exact c_52 q; (first | exact c_57 q1 | exact q2 c_63); (first | exact c_69 q1 | exact q2 c_75)), zif_f (zmay_t e4 e5 eτ (ht.mp c_219))], by congr 1, by rw [hτ]⟩⟩
                            · skip
                              try simp (disch := omega) only [zb_notn, zb_not, zb_n0, zb_0, Bool.not_eq_false, Bool.not_eq_true, Bool.not_eq_true', Bool.not_eq_false', decide_eq_true_eq, decide_eq_false_iff_not, Classical.not_not] at c_219
                              refine z_aload_n X dX9_entry_222 rfl ?_
                              refine z_iconst (v := 3) X (by decide) dX9_entry_223 ?_
                              refine z_runV X kX9_154 (tX9_fails _ hS) (zso_21 hS) rfl rfl (Nat.le_of_ble_eq_true rfl) ⟨by decide, by decide⟩ ⟨by decide, by decide⟩ dX9_entry_224 ?_
                              rintro _ g1 s1 ⟨rfl, h8, h9⟩
                              replace h8 := h8.symm
                              subst h8
                              replace h9 := h9.symm
                              subst h9
                              refine z_iret X (by decide) (by decide) rfl dX9_entry_227 ?_
                              exact ⟨rfl, _, rfl, by rw [hτ]; exact zMP_2 (j := 2) (by unfold zx_entry; rw [if_neg (fun q => q ⟨c_6, c_14, c_23, c_32⟩), if_neg (fun q => by rcases q with q | ⟨q1, q2⟩ | ⟨q1, q2⟩; exact c_52 q; (first | exact c_57 q1 | exact q2 c_63); (first | exact c_69 q1 | exact q2 c_75)), zif_t (zmay_f e4 e5 eτ (by omega) (fun q => absurd (ht.mpr q) (by rw [c_219]; decide)))]) rfl⟩
                          · skip
                            try simp (disch := omega) only [zk0, nI_leI, nI_ltI, nI_eq, zbk_notn, zbk_not, zbk_n0, zbk_0, zb_0, zb_n0, zb_not, zb_notn, Bool.not_eq_false, Bool.not_eq_true, Bool.not_eq_true', Bool.not_eq_false', decide_eq_true_eq, decide_eq_false_iff_not, Classical.not_not] at c_109
                            refine z_aload_n X dX9_entry_112 rfl ?_
                            refine z_getr2 X fX9_16 (zso_21 hS) (zsr_21_4 hS) rfl dX9_entry_113 ?_
                            refine z_iconst (v := nI 4) X (by decide) dX9_entry_116 ?_
                            refine z_iload X dX9_entry_117 rfl ?_
                            refine z_imulN X dX9_entry_119 ?_
                            refine z_ialdN X (zsa_24 hS) (by omega) (by omega) dX9_entry_120 ?_
                            refine z_iload_n X dX9_entry_121 rfl ?_
                            refine z_icmp_ne (tgt := 176) X dX9_entry_122 (by decide) (fun c_122 => ?_) (fun c_122 => ?_)
                            · skip
                              refine z_iconst (v := nI 0) X (by decide) dX9_entry_176 ?_
                              refine z_istore X dX9_entry_177 (by decide) ?_
                              refine z_iload X dX9_entry_179 rfl ?_
                              refine z_if_eq (tgt := 208) X dX9_entry_181 (by decide) (fun c_181 => ?_) (fun c_181 => ?_)
                              · skip
                                try simp (disch := omega) only [zb_notn, zb_not, zb_n0, zb_0, Bool.not_eq_false, Bool.not_eq_true, Bool.not_eq_true', Bool.not_eq_false', decide_eq_true_eq, decide_eq_false_iff_not, Classical.not_not] at c_181
                                have hN : ¬ zmay (τ 24) (τ 23) ne (nI W) a b c9 d (k + 1) := fun q => by first | exact absurd (ht.mpr ⟨q.1, fun j hj => q.2 j (by omega)⟩) (by rw [c_181]; decide) | exact (q.2 k (by omega)).1 ⟨c_122, c_137, c_153, c_169⟩ | (have q9 := (q.2 k (by omega)).2; rw [eC] at q9; omega)
                                refine z_iconst (v := nI 0) X (by decide) dX9_entry_208 ?_
                                refine z_istore X dX9_entry_209 (by decide) ?_
                                refine z_inc1 X dX9_entry_211 rfl (by decide) ?_
                                refine z_goto (tgt := 103) X dX9_entry_214 (by decide) ?_
                                first | exact ih_103 (k + 1) true _ (by omega) ⟨fun _ => hY, fun _ => rfl⟩ (by omega) | exact ih_103 (k + 1) false _ (by omega) ⟨fun q => absurd q (by decide), fun q => absurd q hN⟩ (by omega)
                              · skip
                                try simp (disch := omega) only [zb_notn, zb_not, zb_n0, zb_0, Bool.not_eq_false, Bool.not_eq_true, Bool.not_eq_true', Bool.not_eq_false', decide_eq_true_eq, decide_eq_false_iff_not, Classical.not_not] at c_181
                                refine z_iload X dX9_entry_184 rfl ?_
                                refine z_if_ne (tgt := 208) X dX9_entry_186 (by decide) (fun c_186 => ?_) (fun c_186 => ?_)
                                · first | exact absurd c_186 (by decide) | exact absurd (by decide) c_186
                                · skip
                                  refine z_aload_n X dX9_entry_189 rfl ?_
                                  refine z_getr2 X fX9_13 (zso_21 hS) (zsr_21_3 hS) rfl dX9_entry_190 ?_
                                  refine z_iload X dX9_entry_193 rfl ?_
                                  refine z_ialdN X (zsa_23 hS) (by omega) (by omega) dX9_entry_195 ?_
                                  refine z_iload_n X dX9_entry_196 rfl ?_
                                  obtain ⟨Ck, hCk, eC⟩ := hCτ k (by omega)
                                  have hz5 := zpk_le (nI Ck) (nI W) 5
                                  replace hz5 : zp (nI Ck) (nI W) ≤ 5 := hz5
                                  rw [eC]
                                  refine z_runS X kX9_147 (tX9_parts _ _ (by omega) (by omega)) rfl rfl (Nat.le_of_ble_eq_true rfl) ⟨by decide, by decide⟩ ⟨by decide, by decide⟩ dX9_entry_197 ?_
                                  rintro _ g1 s1 ⟨rfl, h8, h9⟩
                                  replace h8 := h8.symm
                                  subst h8
                                  replace h9 := h9.symm
                                  subst h9
                                  refine z_iconst (v := nI 1) X (by decide) dX9_entry_200 ?_
                                  refine z_icmp_le (tgt := 208) X dX9_entry_201 (by decide) (fun c_201 => ?_) (fun c_201 => ?_)
                                  · skip
                                    try simp (disch := omega) only [zk0, nI_leI, nI_ltI, nI_eq, zbk_notn, zbk_not, zbk_n0, zbk_0, zb_0, zb_n0, zb_not, zb_notn, Bool.not_eq_false, Bool.not_eq_true, Bool.not_eq_true', Bool.not_eq_false', decide_eq_true_eq, decide_eq_false_iff_not, Classical.not_not] at c_201
                                    have hN : ¬ zmay (τ 24) (τ 23) ne (nI W) a b c9 d (k + 1) := fun q => by first | exact absurd (ht.mpr ⟨q.1, fun j hj => q.2 j (by omega)⟩) (by rw [c_181]; decide) | exact (q.2 k (by omega)).1 ⟨c_122, c_137, c_153, c_169⟩ | (have q9 := (q.2 k (by omega)).2; rw [eC] at q9; omega)
                                    refine z_iconst (v := nI 0) X (by decide) dX9_entry_208 ?_
                                    refine z_istore X dX9_entry_209 (by decide) ?_
                                    refine z_inc1 X dX9_entry_211 rfl (by decide) ?_
                                    refine z_goto (tgt := 103) X dX9_entry_214 (by decide) ?_
                                    first | exact ih_103 (k + 1) true _ (by omega) ⟨fun _ => hY, fun _ => rfl⟩ (by omega) | exact ih_103 (k + 1) false _ (by omega) ⟨fun q => absurd q (by decide), fun q => absurd q hN⟩ (by omega)
                                  · skip
                                    try simp (disch := omega) only [zk0, nI_leI, nI_ltI, nI_eq, zbk_notn, zbk_not, zbk_n0, zbk_0, zb_0, zb_n0, zb_not, zb_notn, Bool.not_eq_false, Bool.not_eq_true, Bool.not_eq_true', Bool.not_eq_false', decide_eq_true_eq, decide_eq_false_iff_not, Classical.not_not] at c_201
                                    have hY : zmay (τ 24) (τ 23) ne (nI W) a b c9 d (k + 1) := ⟨(ht.mp c_181).1, fun j hj => by rcases Nat.lt_or_ge j k with h | h; exact (ht.mp c_181).2 j h; (have e : j = k := by omega); subst e; exact ⟨fun q => by first | exact c_122 q.1 | exact c_137 q.2.1 | exact c_153 q.2.2.1 | exact c_169 q.2.2.2, by rw [eC]; omega⟩⟩
                                    refine z_iconst (v := nI 1) X (by decide) dX9_entry_204 ?_
                                    refine z_goto (tgt := 209) X dX9_entry_205 (by decide) ?_
                                    refine z_istore X dX9_entry_209 (by decide) ?_
                                    refine z_inc1 X dX9_entry_211 rfl (by decide) ?_
                                    refine z_goto (tgt := 103) X dX9_entry_214 (by decide) ?_
                                    first | exact ih_103 (k + 1) true _ (by omega) ⟨fun _ => hY, fun _ => rfl⟩ (by omega) | exact ih_103 (k + 1) false _ (by omega) ⟨fun q => absurd q (by decide), fun q => absurd q hN⟩ (by omega)
                            · skip
                              refine z_aload_n X dX9_entry_125 rfl ?_
                              refine z_getr2 X fX9_16 (zso_21 hS) (zsr_21_4 hS) rfl dX9_entry_126 ?_
                              refine z_iconst (v := nI 4) X (by decide) dX9_entry_129 ?_
                              refine z_iload X dX9_entry_130 rfl ?_
                              refine z_imulN X dX9_entry_132 ?_
                              refine z_iconst (v := nI 1) X (by decide) dX9_entry_133 ?_
                              refine z_iaddN X dX9_entry_134 ?_
                              refine z_ialdN X (zsa_24 hS) (by omega) (by omega) dX9_entry_135 ?_
                              refine z_iload_n X dX9_entry_136 rfl ?_
                              refine z_icmp_ne (tgt := 176) X dX9_entry_137 (by decide) (fun c_137 => ?_) (fun c_137 => ?_)
                              · skip
                                refine z_iconst (v := nI 0) X (by decide) dX9_entry_176 ?_
                                refine z_istore X dX9_entry_177 (by decide) ?_
                                refine z_iload X dX9_entry_179 rfl ?_
                                refine z_if_eq (tgt := 208) X dX9_entry_181 (by decide) (fun c_181 => ?_) (fun c_181 => ?_)
                                · skip
                                  try simp (disch := omega) only [zb_notn, zb_not, zb_n0, zb_0, Bool.not_eq_false, Bool.not_eq_true, Bool.not_eq_true', Bool.not_eq_false', decide_eq_true_eq, decide_eq_false_iff_not, Classical.not_not] at c_181
                                  have hN : ¬ zmay (τ 24) (τ 23) ne (nI W) a b c9 d (k + 1) := fun q => by first | exact absurd (ht.mpr ⟨q.1, fun j hj => q.2 j (by omega)⟩) (by rw [c_181]; decide) | exact (q.2 k (by omega)).1 ⟨c_122, c_137, c_153, c_169⟩ | (have q9 := (q.2 k (by omega)).2; rw [eC] at q9; omega)
                                  refine z_iconst (v := nI 0) X (by decide) dX9_entry_208 ?_
                                  refine z_istore X dX9_entry_209 (by decide) ?_
                                  refine z_inc1 X dX9_entry_211 rfl (by decide) ?_
                                  refine z_goto (tgt := 103) X dX9_entry_214 (by decide) ?_
                                  first | exact ih_103 (k + 1) true _ (by omega) ⟨fun _ => hY, fun _ => rfl⟩ (by omega) | exact ih_103 (k + 1) false _ (by omega) ⟨fun q => absurd q (by decide), fun q => absurd q hN⟩ (by omega)
                                · skip
                                  try simp (disch := omega) only [zb_notn, zb_not, zb_n0, zb_0, Bool.not_eq_false, Bool.not_eq_true, Bool.not_eq_true', Bool.not_eq_false', decide_eq_true_eq, decide_eq_false_iff_not, Classical.not_not] at c_181
                                  refine z_iload X dX9_entry_184 rfl ?_
                                  refine z_if_ne (tgt := 208) X dX9_entry_186 (by decide) (fun c_186 => ?_) (fun c_186 => ?_)
                                  · first | exact absurd c_186 (by decide) | exact absurd (by decide) c_186
                                  · skip
                                    refine z_aload_n X dX9_entry_189 rfl ?_
                                    refine z_getr2 X fX9_13 (zso_21 hS) (zsr_21_3 hS) rfl dX9_entry_190 ?_
                                    refine z_iload X dX9_entry_193 rfl ?_
                                    refine z_ialdN X (zsa_23 hS) (by omega) (by omega) dX9_entry_195 ?_
                                    refine z_iload_n X dX9_entry_196 rfl ?_
                                    obtain ⟨Ck, hCk, eC⟩ := hCτ k (by omega)
                                    have hz5 := zpk_le (nI Ck) (nI W) 5
                                    replace hz5 : zp (nI Ck) (nI W) ≤ 5 := hz5
                                    rw [eC]
                                    refine z_runS X kX9_147 (tX9_parts _ _ (by omega) (by omega)) rfl rfl (Nat.le_of_ble_eq_true rfl) ⟨by decide, by decide⟩ ⟨by decide, by decide⟩ dX9_entry_197 ?_
                                    rintro _ g1 s1 ⟨rfl, h8, h9⟩
                                    replace h8 := h8.symm
                                    subst h8
                                    replace h9 := h9.symm
                                    subst h9
                                    refine z_iconst (v := nI 1) X (by decide) dX9_entry_200 ?_
                                    refine z_icmp_le (tgt := 208) X dX9_entry_201 (by decide) (fun c_201 => ?_) (fun c_201 => ?_)
                                    · skip
                                      try simp (disch := omega) only [zk0, nI_leI, nI_ltI, nI_eq, zbk_notn, zbk_not, zbk_n0, zbk_0, zb_0, zb_n0, zb_not, zb_notn, Bool.not_eq_false, Bool.not_eq_true, Bool.not_eq_true', Bool.not_eq_false', decide_eq_true_eq, decide_eq_false_iff_not, Classical.not_not] at c_201
                                      have hN : ¬ zmay (τ 24) (τ 23) ne (nI W) a b c9 d (k + 1) := fun q => by first | exact absurd (ht.mpr ⟨q.1, fun j hj => q.2 j (by omega)⟩) (by rw [c_181]; decide) | exact (q.2 k (by omega)).1 ⟨c_122, c_137, c_153, c_169⟩ | (have q9 := (q.2 k (by omega)).2; rw [eC] at q9; omega)
                                      refine z_iconst (v := nI 0) X (by decide) dX9_entry_208 ?_
                                      refine z_istore X dX9_entry_209 (by decide) ?_
                                      refine z_inc1 X dX9_entry_211 rfl (by decide) ?_
                                      refine z_goto (tgt := 103) X dX9_entry_214 (by decide) ?_
                                      first | exact ih_103 (k + 1) true _ (by omega) ⟨fun _ => hY, fun _ => rfl⟩ (by omega) | exact ih_103 (k + 1) false _ (by omega) ⟨fun q => absurd q (by decide), fun q => absurd q hN⟩ (by omega)
                                    · skip
                                      try simp (disch := omega) only [zk0, nI_leI, nI_ltI, nI_eq, zbk_notn, zbk_not, zbk_n0, zbk_0, zb_0, zb_n0, zb_not, zb_notn, Bool.not_eq_false, Bool.not_eq_true, Bool.not_eq_true', Bool.not_eq_false', decide_eq_true_eq, decide_eq_false_iff_not, Classical.not_not] at c_201
                                      have hY : zmay (τ 24) (τ 23) ne (nI W) a b c9 d (k + 1) := ⟨(ht.mp c_181).1, fun j hj => by rcases Nat.lt_or_ge j k with h | h; exact (ht.mp c_181).2 j h; (have e : j = k := by omega); subst e; exact ⟨fun q => by first | exact c_122 q.1 | exact c_137 q.2.1 | exact c_153 q.2.2.1 | exact c_169 q.2.2.2, by rw [eC]; omega⟩⟩
                                      refine z_iconst (v := nI 1) X (by decide) dX9_entry_204 ?_
                                      refine z_goto (tgt := 209) X dX9_entry_205 (by decide) ?_
                                      refine z_istore X dX9_entry_209 (by decide) ?_
                                      refine z_inc1 X dX9_entry_211 rfl (by decide) ?_
                                      refine z_goto (tgt := 103) X dX9_entry_214 (by decide) ?_
                                      first | exact ih_103 (k + 1) true _ (by omega) ⟨fun _ => hY, fun _ => rfl⟩ (by omega) | exact ih_103 (k + 1) false _ (by omega) ⟨fun q => absurd q (by decide), fun q => absurd q hN⟩ (by omega)
                              · skip
                                refine z_aload_n X dX9_entry_140 rfl ?_
                                refine z_getr2 X fX9_16 (zso_21 hS) (zsr_21_4 hS) rfl dX9_entry_141 ?_
                                refine z_iconst (v := nI 4) X (by decide) dX9_entry_144 ?_
                                refine z_iload X dX9_entry_145 rfl ?_
                                refine z_imulN X dX9_entry_147 ?_
                                refine z_iconst (v := nI 2) X (by decide) dX9_entry_148 ?_
                                refine z_iaddN X dX9_entry_149 ?_
                                refine z_ialdN X (zsa_24 hS) (by omega) (by omega) dX9_entry_150 ?_
                                refine z_iload X dX9_entry_151 rfl ?_
                                refine z_icmp_ne (tgt := 176) X dX9_entry_153 (by decide) (fun c_153 => ?_) (fun c_153 => ?_)
                                · skip
                                  refine z_iconst (v := nI 0) X (by decide) dX9_entry_176 ?_
                                  refine z_istore X dX9_entry_177 (by decide) ?_
                                  refine z_iload X dX9_entry_179 rfl ?_
                                  refine z_if_eq (tgt := 208) X dX9_entry_181 (by decide) (fun c_181 => ?_) (fun c_181 => ?_)
                                  · skip
                                    try simp (disch := omega) only [zb_notn, zb_not, zb_n0, zb_0, Bool.not_eq_false, Bool.not_eq_true, Bool.not_eq_true', Bool.not_eq_false', decide_eq_true_eq, decide_eq_false_iff_not, Classical.not_not] at c_181
                                    have hN : ¬ zmay (τ 24) (τ 23) ne (nI W) a b c9 d (k + 1) := fun q => by first | exact absurd (ht.mpr ⟨q.1, fun j hj => q.2 j (by omega)⟩) (by rw [c_181]; decide) | exact (q.2 k (by omega)).1 ⟨c_122, c_137, c_153, c_169⟩ | (have q9 := (q.2 k (by omega)).2; rw [eC] at q9; omega)
                                    refine z_iconst (v := nI 0) X (by decide) dX9_entry_208 ?_
                                    refine z_istore X dX9_entry_209 (by decide) ?_
                                    refine z_inc1 X dX9_entry_211 rfl (by decide) ?_
                                    refine z_goto (tgt := 103) X dX9_entry_214 (by decide) ?_
                                    first | exact ih_103 (k + 1) true _ (by omega) ⟨fun _ => hY, fun _ => rfl⟩ (by omega) | exact ih_103 (k + 1) false _ (by omega) ⟨fun q => absurd q (by decide), fun q => absurd q hN⟩ (by omega)
                                  · skip
                                    try simp (disch := omega) only [zb_notn, zb_not, zb_n0, zb_0, Bool.not_eq_false, Bool.not_eq_true, Bool.not_eq_true', Bool.not_eq_false', decide_eq_true_eq, decide_eq_false_iff_not, Classical.not_not] at c_181
                                    refine z_iload X dX9_entry_184 rfl ?_
                                    refine z_if_ne (tgt := 208) X dX9_entry_186 (by decide) (fun c_186 => ?_) (fun c_186 => ?_)
                                    · first | exact absurd c_186 (by decide) | exact absurd (by decide) c_186
                                    · skip
                                      refine z_aload_n X dX9_entry_189 rfl ?_
                                      refine z_getr2 X fX9_13 (zso_21 hS) (zsr_21_3 hS) rfl dX9_entry_190 ?_
                                      refine z_iload X dX9_entry_193 rfl ?_
                                      refine z_ialdN X (zsa_23 hS) (by omega) (by omega) dX9_entry_195 ?_
                                      refine z_iload_n X dX9_entry_196 rfl ?_
                                      obtain ⟨Ck, hCk, eC⟩ := hCτ k (by omega)
                                      have hz5 := zpk_le (nI Ck) (nI W) 5
                                      replace hz5 : zp (nI Ck) (nI W) ≤ 5 := hz5
                                      rw [eC]
                                      refine z_runS X kX9_147 (tX9_parts _ _ (by omega) (by omega)) rfl rfl (Nat.le_of_ble_eq_true rfl) ⟨by decide, by decide⟩ ⟨by decide, by decide⟩ dX9_entry_197 ?_
                                      rintro _ g1 s1 ⟨rfl, h8, h9⟩
                                      replace h8 := h8.symm
                                      subst h8
                                      replace h9 := h9.symm
                                      subst h9
                                      refine z_iconst (v := nI 1) X (by decide) dX9_entry_200 ?_
                                      refine z_icmp_le (tgt := 208) X dX9_entry_201 (by decide) (fun c_201 => ?_) (fun c_201 => ?_)
                                      · skip
                                        try simp (disch := omega) only [zk0, nI_leI, nI_ltI, nI_eq, zbk_notn, zbk_not, zbk_n0, zbk_0, zb_0, zb_n0, zb_not, zb_notn, Bool.not_eq_false, Bool.not_eq_true, Bool.not_eq_true', Bool.not_eq_false', decide_eq_true_eq, decide_eq_false_iff_not, Classical.not_not] at c_201
                                        have hN : ¬ zmay (τ 24) (τ 23) ne (nI W) a b c9 d (k + 1) := fun q => by first | exact absurd (ht.mpr ⟨q.1, fun j hj => q.2 j (by omega)⟩) (by rw [c_181]; decide) | exact (q.2 k (by omega)).1 ⟨c_122, c_137, c_153, c_169⟩ | (have q9 := (q.2 k (by omega)).2; rw [eC] at q9; omega)
                                        refine z_iconst (v := nI 0) X (by decide) dX9_entry_208 ?_
                                        refine z_istore X dX9_entry_209 (by decide) ?_
                                        refine z_inc1 X dX9_entry_211 rfl (by decide) ?_
                                        refine z_goto (tgt := 103) X dX9_entry_214 (by decide) ?_
                                        first | exact ih_103 (k + 1) true _ (by omega) ⟨fun _ => hY, fun _ => rfl⟩ (by omega) | exact ih_103 (k + 1) false _ (by omega) ⟨fun q => absurd q (by decide), fun q => absurd q hN⟩ (by omega)
                                      · skip
                                        try simp (disch := omega) only [zk0, nI_leI, nI_ltI, nI_eq, zbk_notn, zbk_not, zbk_n0, zbk_0, zb_0, zb_n0, zb_not, zb_notn, Bool.not_eq_false, Bool.not_eq_true, Bool.not_eq_true', Bool.not_eq_false', decide_eq_true_eq, decide_eq_false_iff_not, Classical.not_not] at c_201
                                        have hY : zmay (τ 24) (τ 23) ne (nI W) a b c9 d (k + 1) := ⟨(ht.mp c_181).1, fun j hj => by rcases Nat.lt_or_ge j k with h | h; exact (ht.mp c_181).2 j h; (have e : j = k := by omega); subst e; exact ⟨fun q => by first | exact c_122 q.1 | exact c_137 q.2.1 | exact c_153 q.2.2.1 | exact c_169 q.2.2.2, by rw [eC]; omega⟩⟩
                                        refine z_iconst (v := nI 1) X (by decide) dX9_entry_204 ?_
                                        refine z_goto (tgt := 209) X dX9_entry_205 (by decide) ?_
                                        refine z_istore X dX9_entry_209 (by decide) ?_
                                        refine z_inc1 X dX9_entry_211 rfl (by decide) ?_
                                        refine z_goto (tgt := 103) X dX9_entry_214 (by decide) ?_
                                        first | exact ih_103 (k + 1) true _ (by omega) ⟨fun _ => hY, fun _ => rfl⟩ (by omega) | exact ih_103 (k + 1) false _ (by omega) ⟨fun q => absurd q (by decide), fun q => absurd q hN⟩ (by omega)
                                · skip
                                  refine z_aload_n X dX9_entry_156 rfl ?_
                                  refine z_getr2 X fX9_16 (zso_21 hS) (zsr_21_4 hS) rfl dX9_entry_157 ?_
                                  refine z_iconst (v := nI 4) X (by decide) dX9_entry_160 ?_
                                  refine z_iload X dX9_entry_161 rfl ?_
                                  refine z_imulN X dX9_entry_163 ?_
                                  refine z_iconst (v := nI 3) X (by decide) dX9_entry_164 ?_
                                  refine z_iaddN X dX9_entry_165 ?_
                                  refine z_ialdN X (zsa_24 hS) (by omega) (by omega) dX9_entry_166 ?_
                                  refine z_iload X dX9_entry_167 rfl ?_
                                  refine z_icmp_ne (tgt := 176) X dX9_entry_169 (by decide) (fun c_169 => ?_) (fun c_169 => ?_)
                                  · skip
                                    refine z_iconst (v := nI 0) X (by decide) dX9_entry_176 ?_
                                    refine z_istore X dX9_entry_177 (by decide) ?_
                                    refine z_iload X dX9_entry_179 rfl ?_
                                    refine z_if_eq (tgt := 208) X dX9_entry_181 (by decide) (fun c_181 => ?_) (fun c_181 => ?_)
                                    · skip
                                      try simp (disch := omega) only [zb_notn, zb_not, zb_n0, zb_0, Bool.not_eq_false, Bool.not_eq_true, Bool.not_eq_true', Bool.not_eq_false', decide_eq_true_eq, decide_eq_false_iff_not, Classical.not_not] at c_181
                                      have hN : ¬ zmay (τ 24) (τ 23) ne (nI W) a b c9 d (k + 1) := fun q => by first | exact absurd (ht.mpr ⟨q.1, fun j hj => q.2 j (by omega)⟩) (by rw [c_181]; decide) | exact (q.2 k (by omega)).1 ⟨c_122, c_137, c_153, c_169⟩ | (have q9 := (q.2 k (by omega)).2; rw [eC] at q9; omega)
                                      refine z_iconst (v := nI 0) X (by decide) dX9_entry_208 ?_
                                      refine z_istore X dX9_entry_209 (by decide) ?_
                                      refine z_inc1 X dX9_entry_211 rfl (by decide) ?_
                                      refine z_goto (tgt := 103) X dX9_entry_214 (by decide) ?_
                                      first | exact ih_103 (k + 1) true _ (by omega) ⟨fun _ => hY, fun _ => rfl⟩ (by omega) | exact ih_103 (k + 1) false _ (by omega) ⟨fun q => absurd q (by decide), fun q => absurd q hN⟩ (by omega)
                                    · skip
                                      try simp (disch := omega) only [zb_notn, zb_not, zb_n0, zb_0, Bool.not_eq_false, Bool.not_eq_true, Bool.not_eq_true', Bool.not_eq_false', decide_eq_true_eq, decide_eq_false_iff_not, Classical.not_not] at c_181
                                      refine z_iload X dX9_entry_184 rfl ?_
                                      refine z_if_ne (tgt := 208) X dX9_entry_186 (by decide) (fun c_186 => ?_) (fun c_186 => ?_)
                                      · first | exact absurd c_186 (by decide) | exact absurd (by decide) c_186
                                      · skip
                                        refine z_aload_n X dX9_entry_189 rfl ?_
                                        refine z_getr2 X fX9_13 (zso_21 hS) (zsr_21_3 hS) rfl dX9_entry_190 ?_
                                        refine z_iload X dX9_entry_193 rfl ?_
                                        refine z_ialdN X (zsa_23 hS) (by omega) (by omega) dX9_entry_195 ?_
                                        refine z_iload_n X dX9_entry_196 rfl ?_
                                        obtain ⟨Ck, hCk, eC⟩ := hCτ k (by omega)
                                        have hz5 := zpk_le (nI Ck) (nI W) 5
                                        replace hz5 : zp (nI Ck) (nI W) ≤ 5 := hz5
                                        rw [eC]
                                        refine z_runS X kX9_147 (tX9_parts _ _ (by omega) (by omega)) rfl rfl (Nat.le_of_ble_eq_true rfl) ⟨by decide, by decide⟩ ⟨by decide, by decide⟩ dX9_entry_197 ?_
                                        rintro _ g1 s1 ⟨rfl, h8, h9⟩
                                        replace h8 := h8.symm
                                        subst h8
                                        replace h9 := h9.symm
                                        subst h9
                                        refine z_iconst (v := nI 1) X (by decide) dX9_entry_200 ?_
                                        refine z_icmp_le (tgt := 208) X dX9_entry_201 (by decide) (fun c_201 => ?_) (fun c_201 => ?_)
                                        · skip
                                          try simp (disch := omega) only [zk0, nI_leI, nI_ltI, nI_eq, zbk_notn, zbk_not, zbk_n0, zbk_0, zb_0, zb_n0, zb_not, zb_notn, Bool.not_eq_false, Bool.not_eq_true, Bool.not_eq_true', Bool.not_eq_false', decide_eq_true_eq, decide_eq_false_iff_not, Classical.not_not] at c_201
                                          have hN : ¬ zmay (τ 24) (τ 23) ne (nI W) a b c9 d (k + 1) := fun q => by first | exact absurd (ht.mpr ⟨q.1, fun j hj => q.2 j (by omega)⟩) (by rw [c_181]; decide) | exact (q.2 k (by omega)).1 ⟨c_122, c_137, c_153, c_169⟩ | (have q9 := (q.2 k (by omega)).2; rw [eC] at q9; omega)
                                          refine z_iconst (v := nI 0) X (by decide) dX9_entry_208 ?_
                                          refine z_istore X dX9_entry_209 (by decide) ?_
                                          refine z_inc1 X dX9_entry_211 rfl (by decide) ?_
                                          refine z_goto (tgt := 103) X dX9_entry_214 (by decide) ?_
                                          first | exact ih_103 (k + 1) true _ (by omega) ⟨fun _ => hY, fun _ => rfl⟩ (by omega) | exact ih_103 (k + 1) false _ (by omega) ⟨fun q => absurd q (by decide), fun q => absurd q hN⟩ (by omega)
                                        · skip
                                          try simp (disch := omega) only [zk0, nI_leI, nI_ltI, nI_eq, zbk_notn, zbk_not, zbk_n0, zbk_0, zb_0, zb_n0, zb_not, zb_notn, Bool.not_eq_false, Bool.not_eq_true, Bool.not_eq_true', Bool.not_eq_false', decide_eq_true_eq, decide_eq_false_iff_not, Classical.not_not] at c_201
                                          have hY : zmay (τ 24) (τ 23) ne (nI W) a b c9 d (k + 1) := ⟨(ht.mp c_181).1, fun j hj => by rcases Nat.lt_or_ge j k with h | h; exact (ht.mp c_181).2 j h; (have e : j = k := by omega); subst e; exact ⟨fun q => by first | exact c_122 q.1 | exact c_137 q.2.1 | exact c_153 q.2.2.1 | exact c_169 q.2.2.2, by rw [eC]; omega⟩⟩
                                          refine z_iconst (v := nI 1) X (by decide) dX9_entry_204 ?_
                                          refine z_goto (tgt := 209) X dX9_entry_205 (by decide) ?_
                                          refine z_istore X dX9_entry_209 (by decide) ?_
                                          refine z_inc1 X dX9_entry_211 rfl (by decide) ?_
                                          refine z_goto (tgt := 103) X dX9_entry_214 (by decide) ?_
                                          first | exact ih_103 (k + 1) true _ (by omega) ⟨fun _ => hY, fun _ => rfl⟩ (by omega) | exact ih_103 (k + 1) false _ (by omega) ⟨fun q => absurd q (by decide), fun q => absurd q hN⟩ (by omega)
                                  · skip
                                    refine z_iconst (v := nI 1) X (by decide) dX9_entry_172 ?_
                                    refine z_goto (tgt := 177) X dX9_entry_173 (by decide) ?_
                                    refine z_istore X dX9_entry_177 (by decide) ?_
                                    refine z_iload X dX9_entry_179 rfl ?_
                                    refine z_if_eq (tgt := 208) X dX9_entry_181 (by decide) (fun c_181 => ?_) (fun c_181 => ?_)
                                    · skip
                                      try simp (disch := omega) only [zb_notn, zb_not, zb_n0, zb_0, Bool.not_eq_false, Bool.not_eq_true, Bool.not_eq_true', Bool.not_eq_false', decide_eq_true_eq, decide_eq_false_iff_not, Classical.not_not] at c_181
                                      have hN : ¬ zmay (τ 24) (τ 23) ne (nI W) a b c9 d (k + 1) := fun q => by first | exact absurd (ht.mpr ⟨q.1, fun j hj => q.2 j (by omega)⟩) (by rw [c_181]; decide) | exact (q.2 k (by omega)).1 ⟨c_122, c_137, c_153, c_169⟩ | (have q9 := (q.2 k (by omega)).2; rw [eC] at q9; omega)
                                      refine z_iconst (v := nI 0) X (by decide) dX9_entry_208 ?_
                                      refine z_istore X dX9_entry_209 (by decide) ?_
                                      refine z_inc1 X dX9_entry_211 rfl (by decide) ?_
                                      refine z_goto (tgt := 103) X dX9_entry_214 (by decide) ?_
                                      first | exact ih_103 (k + 1) true _ (by omega) ⟨fun _ => hY, fun _ => rfl⟩ (by omega) | exact ih_103 (k + 1) false _ (by omega) ⟨fun q => absurd q (by decide), fun q => absurd q hN⟩ (by omega)
                                    · skip
                                      try simp (disch := omega) only [zb_notn, zb_not, zb_n0, zb_0, Bool.not_eq_false, Bool.not_eq_true, Bool.not_eq_true', Bool.not_eq_false', decide_eq_true_eq, decide_eq_false_iff_not, Classical.not_not] at c_181
                                      refine z_iload X dX9_entry_184 rfl ?_
                                      refine z_if_ne (tgt := 208) X dX9_entry_186 (by decide) (fun c_186 => ?_) (fun c_186 => ?_)
                                      · skip
                                        have hN : ¬ zmay (τ 24) (τ 23) ne (nI W) a b c9 d (k + 1) := fun q => by first | exact absurd (ht.mpr ⟨q.1, fun j hj => q.2 j (by omega)⟩) (by rw [c_181]; decide) | exact (q.2 k (by omega)).1 ⟨c_122, c_137, c_153, c_169⟩ | (have q9 := (q.2 k (by omega)).2; rw [eC] at q9; omega)
                                        refine z_iconst (v := nI 0) X (by decide) dX9_entry_208 ?_
                                        refine z_istore X dX9_entry_209 (by decide) ?_
                                        refine z_inc1 X dX9_entry_211 rfl (by decide) ?_
                                        refine z_goto (tgt := 103) X dX9_entry_214 (by decide) ?_
                                        first | exact ih_103 (k + 1) true _ (by omega) ⟨fun _ => hY, fun _ => rfl⟩ (by omega) | exact ih_103 (k + 1) false _ (by omega) ⟨fun q => absurd q (by decide), fun q => absurd q hN⟩ (by omega)
                                      · first | exact absurd c_186 (by decide) | exact absurd (by decide) c_186
                      refine z_iconst (v := nI 0) X (by decide) dX9_entry_100 ?_
                      refine z_istore X dX9_entry_101 (by decide) ?_
                      exact loop_103 (ne - 0 + 1) 0 _ _ (Nat.zero_le _) ht0 (by omega)
                  · skip
                    refine z_iload X dX9_entry_72 rfl ?_
                    refine z_iconst (v := -1) X (by decide) dX9_entry_74 ?_
                    refine z_icmp_eq (tgt := 84) X dX9_entry_75 (by decide) (fun c_75 => ?_) (fun c_75 => ?_)
                    · skip
                      obtain ⟨W, hW, rfl⟩ := zwd_of c_52
                      refine z_aload_n X dX9_entry_84 rfl ?_
                      refine z_geti X fX9_168 (zso_21 hS) rfl dX9_entry_85 ?_
                      rw [heτ]
                      refine z_bipush (v := nI 40) X (by decide) dX9_entry_88 ?_
                      refine z_icmp_ge (tgt := 97) X dX9_entry_90 (by decide) (fun c_90 => ?_) (fun c_90 => ?_)
                      · skip
                        try simp (disch := omega) only [zk0, nI_leI, nI_ltI, nI_eq, zbk_notn, zbk_not, zbk_n0, zbk_0, zb_0, zb_n0, zb_not, zb_notn, Bool.not_eq_false, Bool.not_eq_true, Bool.not_eq_true', Bool.not_eq_false', decide_eq_true_eq, decide_eq_false_iff_not, Classical.not_not] at c_90
                        refine z_iconst (v := nI 0) X (by decide) dX9_entry_97 ?_
                        first | (have ht0 : true = true ↔ zmay (τ 24) (τ 23) ne (nI W) a b c9 d 0 := ⟨fun _ => ⟨by omega, fun j hj => absurd hj (Nat.not_lt_zero _)⟩, fun _ => rfl⟩; rw [show Value.int (nI 1) = Value.int (zb true) from rfl]) | (have ht0 : false = true ↔ zmay (τ 24) (τ 23) ne (nI W) a b c9 d 0 := ⟨fun q => absurd q (by decide), fun q => by have := q.1; omega⟩; rw [show Value.int (nI 0) = Value.int (zb false) from rfl])
                        refine z_istore X dX9_entry_98 (by decide) ?_
                        have loop_103 : ∀ (n : Nat) (k : Nat) (t : Bool) (v8 : Option Value) (hk : k ≤ ne) (ht : t = true ↔ zmay (τ 24) (τ 23) ne (nI W) a b c9 d k) (hn : ne - k < n), z_V p l e (zRm MX9_entry) s m args below meth c 9 D cy z0 0 0 (zQm MX9_entry below D cy z0 (fun v g' σ' => g' = g ∧ ∃ r, v = some (.int r) ∧ zMP (zx_entry ρ ni ne (nI W) a b c9 d) σ σ' (r = nI ne ∧ σ' = z_up (z_up (z_up (z_up (z_up (z_up (z_up σ 21 48 0) 23 ne (nI W)) 24 (4 * ne) a) 24 (4 * ne + 1) b) 24 (4 * ne + 2) c9) 24 (4 * ne + 3) d) 21 2 (nI (ne + 1)))) args s) 103 [some (.ref (g.2.1 21)), some (.int (nI W)), some (.int a), some (.int b), some (.int c9), some (.int d), some (.int (zb t)), some (.int (nI k)), v8] [] g τ := by
                          intro n
                          induction n with
                          | zero => intro k t v8 hk ht hn; exact absurd hn (Nat.not_lt_zero _)
                          | succ n ih_103 =>
                            intro k t v8 hk ht hn
                            refine z_iload X dX9_entry_103 rfl ?_
                            refine z_aload_n X dX9_entry_105 rfl ?_
                            refine z_geti X fX9_168 (zso_21 hS) rfl dX9_entry_106 ?_
                            rw [heτ]
                            refine z_icmp_ge (tgt := 217) X dX9_entry_109 (by decide) (fun c_109 => ?_) (fun c_109 => ?_)
                            · skip
                              try simp (disch := omega) only [zk0, nI_leI, nI_ltI, nI_eq, zbk_notn, zbk_not, zbk_n0, zbk_0, zb_0, zb_n0, zb_not, zb_notn, Bool.not_eq_false, Bool.not_eq_true, Bool.not_eq_true', Bool.not_eq_false', decide_eq_true_eq, decide_eq_false_iff_not, Classical.not_not] at c_109
                              have e : ne = k := by omega
                              subst e
                              refine z_iload X dX9_entry_217 rfl ?_
                              refine z_if_ne (tgt := 228) X dX9_entry_219 (by decide) (fun c_219 => ?_) (fun c_219 => ?_)
                              · skip
                                try simp (disch := omega) only [zb_notn, zb_not, zb_n0, zb_0, Bool.not_eq_false, Bool.not_eq_true, Bool.not_eq_true', Bool.not_eq_false', decide_eq_true_eq, decide_eq_false_iff_not, Classical.not_not] at c_219
                                have h40 : ne < 40 := (ht.mp c_219).1
                                refine z_aload_n X dX9_entry_228 rfl ?_
                                refine z_getr2 X fX9_13 (zso_21 hS) (zsr_21_3 hS) rfl dX9_entry_229 ?_
                                refine z_aload_n X dX9_entry_232 rfl ?_
                                refine z_geti X fX9_168 (zso_21 hS) rfl dX9_entry_233 ?_
                                rw [heτ]
                                refine z_iload_n X dX9_entry_236 rfl ?_
                                refine z_iastN X (zsa_23 hS) (by omega) (by omega) dX9_entry_237 ?_
                                refine z_aload_n X dX9_entry_238 rfl ?_
                                refine z_getr2 X fX9_16 (zso_21 hS) (zsr_21_4 hS) rfl dX9_entry_239 ?_
                                refine z_iconst (v := nI 4) X (by decide) dX9_entry_242 ?_
                                refine z_aload_n X dX9_entry_243 rfl ?_
                                refine z_geti X fX9_168 (zso_21 hS) rfl dX9_entry_244 ?_
                                repeat rw [z_up_ne (by decide)]
                                rw [heτ]
                                refine z_imulN X dX9_entry_247 ?_
                                refine z_iload_n X dX9_entry_248 rfl ?_
                                refine z_iastN X (zsa_24 hS) (by omega) (by omega) dX9_entry_249 ?_
                                refine z_aload_n X dX9_entry_250 rfl ?_
                                refine z_getr2 X fX9_16 (zso_21 hS) (zsr_21_4 hS) rfl dX9_entry_251 ?_
                                refine z_iconst (v := nI 4) X (by decide) dX9_entry_254 ?_
                                refine z_aload_n X dX9_entry_255 rfl ?_
                                refine z_geti X fX9_168 (zso_21 hS) rfl dX9_entry_256 ?_
                                repeat rw [z_up_ne (by decide)]
                                rw [heτ]
                                refine z_imulN X dX9_entry_259 ?_
                                refine z_iconst (v := nI 1) X (by decide) dX9_entry_260 ?_
                                refine z_iaddN X dX9_entry_261 ?_
                                refine z_iload_n X dX9_entry_262 rfl ?_
                                refine z_iastN X (zsa_24 hS) (by omega) (by omega) dX9_entry_263 ?_
                                refine z_aload_n X dX9_entry_264 rfl ?_
                                refine z_getr2 X fX9_16 (zso_21 hS) (zsr_21_4 hS) rfl dX9_entry_265 ?_
                                refine z_iconst (v := nI 4) X (by decide) dX9_entry_268 ?_
                                refine z_aload_n X dX9_entry_269 rfl ?_
                                refine z_geti X fX9_168 (zso_21 hS) rfl dX9_entry_270 ?_
                                repeat rw [z_up_ne (by decide)]
                                rw [heτ]
                                refine z_imulN X dX9_entry_273 ?_
                                refine z_iconst (v := nI 2) X (by decide) dX9_entry_274 ?_
                                refine z_iaddN X dX9_entry_275 ?_
                                refine z_iload X dX9_entry_276 rfl ?_
                                refine z_iastN X (zsa_24 hS) (by omega) (by omega) dX9_entry_278 ?_
                                refine z_aload_n X dX9_entry_279 rfl ?_
                                refine z_getr2 X fX9_16 (zso_21 hS) (zsr_21_4 hS) rfl dX9_entry_280 ?_
                                refine z_iconst (v := nI 4) X (by decide) dX9_entry_283 ?_
                                refine z_aload_n X dX9_entry_284 rfl ?_
                                refine z_geti X fX9_168 (zso_21 hS) rfl dX9_entry_285 ?_
                                repeat rw [z_up_ne (by decide)]
                                rw [heτ]
                                refine z_imulN X dX9_entry_288 ?_
                                refine z_iconst (v := nI 3) X (by decide) dX9_entry_289 ?_
                                refine z_iaddN X dX9_entry_290 ?_
                                refine z_iload X dX9_entry_291 rfl ?_
                                refine z_iastN X (zsa_24 hS) (by omega) (by omega) dX9_entry_293 ?_
                                refine z_aload_n X dX9_entry_294 rfl ?_
                                refine z_dup X rfl dX9_entry_295 ?_
                                refine z_geti X fX9_168 (zso_21 hS) rfl dX9_entry_296 ?_
                                repeat rw [z_up_ne (by decide)]
                                rw [heτ]
                                refine z_iconst (v := nI 1) X (by decide) dX9_entry_299 ?_
                                refine z_iaddN X dX9_entry_300 ?_
                                refine z_puti X fX9_168 (zso_21 hS) rfl dX9_entry_301 ?_
                                refine z_aload_n X dX9_entry_304 rfl ?_
                                refine z_geti X fX9_168 (zso_21 hS) rfl dX9_entry_305 ?_
                                rw [z_up_app, if_pos rfl, if_pos rfl]
                                refine z_iconst (v := nI 1) X (by decide) dX9_entry_308 ?_
                                refine z_isubN X (by omega) dX9_entry_309 ?_
                                refine z_iret X (by decide) (by decide) rfl dX9_entry_310 ?_
                                exact ⟨rfl, _, rfl, Or.inr ⟨by unfold zx_entry; rw [if_neg (fun q => q ⟨c_6, c_14, c_23, c_32⟩), if_neg (fun q => by rcases q with q | ⟨q1, q2⟩ | ⟨q1, q2⟩; exact c_52 q; (first | exact c_57 q1 | exact q2 c_63); (first | exact c_69 q1 | exact q2 c_75)), zif_f (zmay_t e4 e5 eτ (ht.mp c_219))], by congr 1, by rw [hτ]⟩⟩
                              · skip
                                try simp (disch := omega) only [zb_notn, zb_not, zb_n0, zb_0, Bool.not_eq_false, Bool.not_eq_true, Bool.not_eq_true', Bool.not_eq_false', decide_eq_true_eq, decide_eq_false_iff_not, Classical.not_not] at c_219
                                refine z_aload_n X dX9_entry_222 rfl ?_
                                refine z_iconst (v := 3) X (by decide) dX9_entry_223 ?_
                                refine z_runV X kX9_154 (tX9_fails _ hS) (zso_21 hS) rfl rfl (Nat.le_of_ble_eq_true rfl) ⟨by decide, by decide⟩ ⟨by decide, by decide⟩ dX9_entry_224 ?_
                                rintro _ g1 s1 ⟨rfl, h8, h9⟩
                                replace h8 := h8.symm
                                subst h8
                                replace h9 := h9.symm
                                subst h9
                                refine z_iret X (by decide) (by decide) rfl dX9_entry_227 ?_
                                exact ⟨rfl, _, rfl, by rw [hτ]; exact zMP_2 (j := 2) (by unfold zx_entry; rw [if_neg (fun q => q ⟨c_6, c_14, c_23, c_32⟩), if_neg (fun q => by rcases q with q | ⟨q1, q2⟩ | ⟨q1, q2⟩; exact c_52 q; (first | exact c_57 q1 | exact q2 c_63); (first | exact c_69 q1 | exact q2 c_75)), zif_t (zmay_f e4 e5 eτ (by omega) (fun q => absurd (ht.mpr q) (by rw [c_219]; decide)))]) rfl⟩
                            · skip
                              try simp (disch := omega) only [zk0, nI_leI, nI_ltI, nI_eq, zbk_notn, zbk_not, zbk_n0, zbk_0, zb_0, zb_n0, zb_not, zb_notn, Bool.not_eq_false, Bool.not_eq_true, Bool.not_eq_true', Bool.not_eq_false', decide_eq_true_eq, decide_eq_false_iff_not, Classical.not_not] at c_109
                              refine z_aload_n X dX9_entry_112 rfl ?_
                              refine z_getr2 X fX9_16 (zso_21 hS) (zsr_21_4 hS) rfl dX9_entry_113 ?_
                              refine z_iconst (v := nI 4) X (by decide) dX9_entry_116 ?_
                              refine z_iload X dX9_entry_117 rfl ?_
                              refine z_imulN X dX9_entry_119 ?_
                              refine z_ialdN X (zsa_24 hS) (by omega) (by omega) dX9_entry_120 ?_
                              refine z_iload_n X dX9_entry_121 rfl ?_
                              refine z_icmp_ne (tgt := 176) X dX9_entry_122 (by decide) (fun c_122 => ?_) (fun c_122 => ?_)
                              · skip
                                refine z_iconst (v := nI 0) X (by decide) dX9_entry_176 ?_
                                refine z_istore X dX9_entry_177 (by decide) ?_
                                refine z_iload X dX9_entry_179 rfl ?_
                                refine z_if_eq (tgt := 208) X dX9_entry_181 (by decide) (fun c_181 => ?_) (fun c_181 => ?_)
                                · skip
                                  try simp (disch := omega) only [zb_notn, zb_not, zb_n0, zb_0, Bool.not_eq_false, Bool.not_eq_true, Bool.not_eq_true', Bool.not_eq_false', decide_eq_true_eq, decide_eq_false_iff_not, Classical.not_not] at c_181
                                  have hN : ¬ zmay (τ 24) (τ 23) ne (nI W) a b c9 d (k + 1) := fun q => by first | exact absurd (ht.mpr ⟨q.1, fun j hj => q.2 j (by omega)⟩) (by rw [c_181]; decide) | exact (q.2 k (by omega)).1 ⟨c_122, c_137, c_153, c_169⟩ | (have q9 := (q.2 k (by omega)).2; rw [eC] at q9; omega)
                                  refine z_iconst (v := nI 0) X (by decide) dX9_entry_208 ?_
                                  refine z_istore X dX9_entry_209 (by decide) ?_
                                  refine z_inc1 X dX9_entry_211 rfl (by decide) ?_
                                  refine z_goto (tgt := 103) X dX9_entry_214 (by decide) ?_
                                  first | exact ih_103 (k + 1) true _ (by omega) ⟨fun _ => hY, fun _ => rfl⟩ (by omega) | exact ih_103 (k + 1) false _ (by omega) ⟨fun q => absurd q (by decide), fun q => absurd q hN⟩ (by omega)
                                · skip
                                  try simp (disch := omega) only [zb_notn, zb_not, zb_n0, zb_0, Bool.not_eq_false, Bool.not_eq_true, Bool.not_eq_true', Bool.not_eq_false', decide_eq_true_eq, decide_eq_false_iff_not, Classical.not_not] at c_181
                                  refine z_iload X dX9_entry_184 rfl ?_
                                  refine z_if_ne (tgt := 208) X dX9_entry_186 (by decide) (fun c_186 => ?_) (fun c_186 => ?_)
                                  · first | exact absurd c_186 (by decide) | exact absurd (by decide) c_186
                                  · skip
                                    refine z_aload_n X dX9_entry_189 rfl ?_
                                    refine z_getr2 X fX9_13 (zso_21 hS) (zsr_21_3 hS) rfl dX9_entry_190 ?_
                                    refine z_iload X dX9_entry_193 rfl ?_
                                    refine z_ialdN X (zsa_23 hS) (by omega) (by omega) dX9_entry_195 ?_
                                    refine z_iload_n X dX9_entry_196 rfl ?_
                                    obtain ⟨Ck, hCk, eC⟩ := hCτ k (by omega)
                                    have hz5 := zpk_le (nI Ck) (nI W) 5
                                    replace hz5 : zp (nI Ck) (nI W) ≤ 5 := hz5
                                    rw [eC]
                                    refine z_runS X kX9_147 (tX9_parts _ _ (by omega) (by omega)) rfl rfl (Nat.le_of_ble_eq_true rfl) ⟨by decide, by decide⟩ ⟨by decide, by decide⟩ dX9_entry_197 ?_
                                    rintro _ g1 s1 ⟨rfl, h8, h9⟩
                                    replace h8 := h8.symm
                                    subst h8
                                    replace h9 := h9.symm
                                    subst h9
                                    refine z_iconst (v := nI 1) X (by decide) dX9_entry_200 ?_
                                    refine z_icmp_le (tgt := 208) X dX9_entry_201 (by decide) (fun c_201 => ?_) (fun c_201 => ?_)
                                    · skip
                                      try simp (disch := omega) only [zk0, nI_leI, nI_ltI, nI_eq, zbk_notn, zbk_not, zbk_n0, zbk_0, zb_0, zb_n0, zb_not, zb_notn, Bool.not_eq_false, Bool.not_eq_true, Bool.not_eq_true', Bool.not_eq_false', decide_eq_true_eq, decide_eq_false_iff_not, Classical.not_not] at c_201
                                      have hN : ¬ zmay (τ 24) (τ 23) ne (nI W) a b c9 d (k + 1) := fun q => by first | exact absurd (ht.mpr ⟨q.1, fun j hj => q.2 j (by omega)⟩) (by rw [c_181]; decide) | exact (q.2 k (by omega)).1 ⟨c_122, c_137, c_153, c_169⟩ | (have q9 := (q.2 k (by omega)).2; rw [eC] at q9; omega)
                                      refine z_iconst (v := nI 0) X (by decide) dX9_entry_208 ?_
                                      refine z_istore X dX9_entry_209 (by decide) ?_
                                      refine z_inc1 X dX9_entry_211 rfl (by decide) ?_
                                      refine z_goto (tgt := 103) X dX9_entry_214 (by decide) ?_
                                      first | exact ih_103 (k + 1) true _ (by omega) ⟨fun _ => hY, fun _ => rfl⟩ (by omega) | exact ih_103 (k + 1) false _ (by omega) ⟨fun q => absurd q (by decide), fun q => absurd q hN⟩ (by omega)
                                    · skip
                                      try simp (disch := omega) only [zk0, nI_leI, nI_ltI, nI_eq, zbk_notn, zbk_not, zbk_n0, zbk_0, zb_0, zb_n0, zb_not, zb_notn, Bool.not_eq_false, Bool.not_eq_true, Bool.not_eq_true', Bool.not_eq_false', decide_eq_true_eq, decide_eq_false_iff_not, Classical.not_not] at c_201
                                      have hY : zmay (τ 24) (τ 23) ne (nI W) a b c9 d (k + 1) := ⟨(ht.mp c_181).1, fun j hj => by rcases Nat.lt_or_ge j k with h | h; exact (ht.mp c_181).2 j h; (have e : j = k := by omega); subst e; exact ⟨fun q => by first | exact c_122 q.1 | exact c_137 q.2.1 | exact c_153 q.2.2.1 | exact c_169 q.2.2.2, by rw [eC]; omega⟩⟩
                                      refine z_iconst (v := nI 1) X (by decide) dX9_entry_204 ?_
                                      refine z_goto (tgt := 209) X dX9_entry_205 (by decide) ?_
                                      refine z_istore X dX9_entry_209 (by decide) ?_
                                      refine z_inc1 X dX9_entry_211 rfl (by decide) ?_
                                      refine z_goto (tgt := 103) X dX9_entry_214 (by decide) ?_
                                      first | exact ih_103 (k + 1) true _ (by omega) ⟨fun _ => hY, fun _ => rfl⟩ (by omega) | exact ih_103 (k + 1) false _ (by omega) ⟨fun q => absurd q (by decide), fun q => absurd q hN⟩ (by omega)
                              · skip
                                refine z_aload_n X dX9_entry_125 rfl ?_
                                refine z_getr2 X fX9_16 (zso_21 hS) (zsr_21_4 hS) rfl dX9_entry_126 ?_
                                refine z_iconst (v := nI 4) X (by decide) dX9_entry_129 ?_
                                refine z_iload X dX9_entry_130 rfl ?_
                                refine z_imulN X dX9_entry_132 ?_
                                refine z_iconst (v := nI 1) X (by decide) dX9_entry_133 ?_
                                refine z_iaddN X dX9_entry_134 ?_
                                refine z_ialdN X (zsa_24 hS) (by omega) (by omega) dX9_entry_135 ?_
                                refine z_iload_n X dX9_entry_136 rfl ?_
                                refine z_icmp_ne (tgt := 176) X dX9_entry_137 (by decide) (fun c_137 => ?_) (fun c_137 => ?_)
                                · skip
                                  refine z_iconst (v := nI 0) X (by decide) dX9_entry_176 ?_
                                  refine z_istore X dX9_entry_177 (by decide) ?_
                                  refine z_iload X dX9_entry_179 rfl ?_
                                  refine z_if_eq (tgt := 208) X dX9_entry_181 (by decide) (fun c_181 => ?_) (fun c_181 => ?_)
                                  · skip
                                    try simp (disch := omega) only [zb_notn, zb_not, zb_n0, zb_0, Bool.not_eq_false, Bool.not_eq_true, Bool.not_eq_true', Bool.not_eq_false', decide_eq_true_eq, decide_eq_false_iff_not, Classical.not_not] at c_181
                                    have hN : ¬ zmay (τ 24) (τ 23) ne (nI W) a b c9 d (k + 1) := fun q => by first | exact absurd (ht.mpr ⟨q.1, fun j hj => q.2 j (by omega)⟩) (by rw [c_181]; decide) | exact (q.2 k (by omega)).1 ⟨c_122, c_137, c_153, c_169⟩ | (have q9 := (q.2 k (by omega)).2; rw [eC] at q9; omega)
                                    refine z_iconst (v := nI 0) X (by decide) dX9_entry_208 ?_
                                    refine z_istore X dX9_entry_209 (by decide) ?_
                                    refine z_inc1 X dX9_entry_211 rfl (by decide) ?_
                                    refine z_goto (tgt := 103) X dX9_entry_214 (by decide) ?_
                                    first | exact ih_103 (k + 1) true _ (by omega) ⟨fun _ => hY, fun _ => rfl⟩ (by omega) | exact ih_103 (k + 1) false _ (by omega) ⟨fun q => absurd q (by decide), fun q => absurd q hN⟩ (by omega)
                                  · skip
                                    try simp (disch := omega) only [zb_notn, zb_not, zb_n0, zb_0, Bool.not_eq_false, Bool.not_eq_true, Bool.not_eq_true', Bool.not_eq_false', decide_eq_true_eq, decide_eq_false_iff_not, Classical.not_not] at c_181
                                    refine z_iload X dX9_entry_184 rfl ?_
                                    refine z_if_ne (tgt := 208) X dX9_entry_186 (by decide) (fun c_186 => ?_) (fun c_186 => ?_)
                                    · first | exact absurd c_186 (by decide) | exact absurd (by decide) c_186
                                    · skip
                                      refine z_aload_n X dX9_entry_189 rfl ?_
                                      refine z_getr2 X fX9_13 (zso_21 hS) (zsr_21_3 hS) rfl dX9_entry_190 ?_
                                      refine z_iload X dX9_entry_193 rfl ?_
                                      refine z_ialdN X (zsa_23 hS) (by omega) (by omega) dX9_entry_195 ?_
                                      refine z_iload_n X dX9_entry_196 rfl ?_
                                      obtain ⟨Ck, hCk, eC⟩ := hCτ k (by omega)
                                      have hz5 := zpk_le (nI Ck) (nI W) 5
                                      replace hz5 : zp (nI Ck) (nI W) ≤ 5 := hz5
                                      rw [eC]
                                      refine z_runS X kX9_147 (tX9_parts _ _ (by omega) (by omega)) rfl rfl (Nat.le_of_ble_eq_true rfl) ⟨by decide, by decide⟩ ⟨by decide, by decide⟩ dX9_entry_197 ?_
                                      rintro _ g1 s1 ⟨rfl, h8, h9⟩
                                      replace h8 := h8.symm
                                      subst h8
                                      replace h9 := h9.symm
                                      subst h9
                                      refine z_iconst (v := nI 1) X (by decide) dX9_entry_200 ?_
                                      refine z_icmp_le (tgt := 208) X dX9_entry_201 (by decide) (fun c_201 => ?_) (fun c_201 => ?_)
                                      · skip
                                        try simp (disch := omega) only [zk0, nI_leI, nI_ltI, nI_eq, zbk_notn, zbk_not, zbk_n0, zbk_0, zb_0, zb_n0, zb_not, zb_notn, Bool.not_eq_false, Bool.not_eq_true, Bool.not_eq_true', Bool.not_eq_false', decide_eq_true_eq, decide_eq_false_iff_not, Classical.not_not] at c_201
                                        have hN : ¬ zmay (τ 24) (τ 23) ne (nI W) a b c9 d (k + 1) := fun q => by first | exact absurd (ht.mpr ⟨q.1, fun j hj => q.2 j (by omega)⟩) (by rw [c_181]; decide) | exact (q.2 k (by omega)).1 ⟨c_122, c_137, c_153, c_169⟩ | (have q9 := (q.2 k (by omega)).2; rw [eC] at q9; omega)
                                        refine z_iconst (v := nI 0) X (by decide) dX9_entry_208 ?_
                                        refine z_istore X dX9_entry_209 (by decide) ?_
                                        refine z_inc1 X dX9_entry_211 rfl (by decide) ?_
                                        refine z_goto (tgt := 103) X dX9_entry_214 (by decide) ?_
                                        first | exact ih_103 (k + 1) true _ (by omega) ⟨fun _ => hY, fun _ => rfl⟩ (by omega) | exact ih_103 (k + 1) false _ (by omega) ⟨fun q => absurd q (by decide), fun q => absurd q hN⟩ (by omega)
                                      · skip
                                        try simp (disch := omega) only [zk0, nI_leI, nI_ltI, nI_eq, zbk_notn, zbk_not, zbk_n0, zbk_0, zb_0, zb_n0, zb_not, zb_notn, Bool.not_eq_false, Bool.not_eq_true, Bool.not_eq_true', Bool.not_eq_false', decide_eq_true_eq, decide_eq_false_iff_not, Classical.not_not] at c_201
                                        have hY : zmay (τ 24) (τ 23) ne (nI W) a b c9 d (k + 1) := ⟨(ht.mp c_181).1, fun j hj => by rcases Nat.lt_or_ge j k with h | h; exact (ht.mp c_181).2 j h; (have e : j = k := by omega); subst e; exact ⟨fun q => by first | exact c_122 q.1 | exact c_137 q.2.1 | exact c_153 q.2.2.1 | exact c_169 q.2.2.2, by rw [eC]; omega⟩⟩
                                        refine z_iconst (v := nI 1) X (by decide) dX9_entry_204 ?_
                                        refine z_goto (tgt := 209) X dX9_entry_205 (by decide) ?_
                                        refine z_istore X dX9_entry_209 (by decide) ?_
                                        refine z_inc1 X dX9_entry_211 rfl (by decide) ?_
                                        refine z_goto (tgt := 103) X dX9_entry_214 (by decide) ?_
                                        first | exact ih_103 (k + 1) true _ (by omega) ⟨fun _ => hY, fun _ => rfl⟩ (by omega) | exact ih_103 (k + 1) false _ (by omega) ⟨fun q => absurd q (by decide), fun q => absurd q hN⟩ (by omega)
                                · skip
                                  refine z_aload_n X dX9_entry_140 rfl ?_
                                  refine z_getr2 X fX9_16 (zso_21 hS) (zsr_21_4 hS) rfl dX9_entry_141 ?_
                                  refine z_iconst (v := nI 4) X (by decide) dX9_entry_144 ?_
                                  refine z_iload X dX9_entry_145 rfl ?_
                                  refine z_imulN X dX9_entry_147 ?_
                                  refine z_iconst (v := nI 2) X (by decide) dX9_entry_148 ?_
                                  refine z_iaddN X dX9_entry_149 ?_
                                  refine z_ialdN X (zsa_24 hS) (by omega) (by omega) dX9_entry_150 ?_
                                  refine z_iload X dX9_entry_151 rfl ?_
                                  refine z_icmp_ne (tgt := 176) X dX9_entry_153 (by decide) (fun c_153 => ?_) (fun c_153 => ?_)
                                  · skip
                                    refine z_iconst (v := nI 0) X (by decide) dX9_entry_176 ?_
                                    refine z_istore X dX9_entry_177 (by decide) ?_
                                    refine z_iload X dX9_entry_179 rfl ?_
                                    refine z_if_eq (tgt := 208) X dX9_entry_181 (by decide) (fun c_181 => ?_) (fun c_181 => ?_)
                                    · skip
                                      try simp (disch := omega) only [zb_notn, zb_not, zb_n0, zb_0, Bool.not_eq_false, Bool.not_eq_true, Bool.not_eq_true', Bool.not_eq_false', decide_eq_true_eq, decide_eq_false_iff_not, Classical.not_not] at c_181
                                      have hN : ¬ zmay (τ 24) (τ 23) ne (nI W) a b c9 d (k + 1) := fun q => by first | exact absurd (ht.mpr ⟨q.1, fun j hj => q.2 j (by omega)⟩) (by rw [c_181]; decide) | exact (q.2 k (by omega)).1 ⟨c_122, c_137, c_153, c_169⟩ | (have q9 := (q.2 k (by omega)).2; rw [eC] at q9; omega)
                                      refine z_iconst (v := nI 0) X (by decide) dX9_entry_208 ?_
                                      refine z_istore X dX9_entry_209 (by decide) ?_
                                      refine z_inc1 X dX9_entry_211 rfl (by decide) ?_
                                      refine z_goto (tgt := 103) X dX9_entry_214 (by decide) ?_
                                      first | exact ih_103 (k + 1) true _ (by omega) ⟨fun _ => hY, fun _ => rfl⟩ (by omega) | exact ih_103 (k + 1) false _ (by omega) ⟨fun q => absurd q (by decide), fun q => absurd q hN⟩ (by omega)
                                    · skip
                                      try simp (disch := omega) only [zb_notn, zb_not, zb_n0, zb_0, Bool.not_eq_false, Bool.not_eq_true, Bool.not_eq_true', Bool.not_eq_false', decide_eq_true_eq, decide_eq_false_iff_not, Classical.not_not] at c_181
                                      refine z_iload X dX9_entry_184 rfl ?_
                                      refine z_if_ne (tgt := 208) X dX9_entry_186 (by decide) (fun c_186 => ?_) (fun c_186 => ?_)
                                      · first | exact absurd c_186 (by decide) | exact absurd (by decide) c_186
                                      · skip
                                        refine z_aload_n X dX9_entry_189 rfl ?_
                                        refine z_getr2 X fX9_13 (zso_21 hS) (zsr_21_3 hS) rfl dX9_entry_190 ?_
                                        refine z_iload X dX9_entry_193 rfl ?_
                                        refine z_ialdN X (zsa_23 hS) (by omega) (by omega) dX9_entry_195 ?_
                                        refine z_iload_n X dX9_entry_196 rfl ?_
                                        obtain ⟨Ck, hCk, eC⟩ := hCτ k (by omega)
                                        have hz5 := zpk_le (nI Ck) (nI W) 5
                                        replace hz5 : zp (nI Ck) (nI W) ≤ 5 := hz5
                                        rw [eC]
                                        refine z_runS X kX9_147 (tX9_parts _ _ (by omega) (by omega)) rfl rfl (Nat.le_of_ble_eq_true rfl) ⟨by decide, by decide⟩ ⟨by decide, by decide⟩ dX9_entry_197 ?_
                                        rintro _ g1 s1 ⟨rfl, h8, h9⟩
                                        replace h8 := h8.symm
                                        subst h8
                                        replace h9 := h9.symm
                                        subst h9
                                        refine z_iconst (v := nI 1) X (by decide) dX9_entry_200 ?_
                                        refine z_icmp_le (tgt := 208) X dX9_entry_201 (by decide) (fun c_201 => ?_) (fun c_201 => ?_)
                                        · skip
                                          try simp (disch := omega) only [zk0, nI_leI, nI_ltI, nI_eq, zbk_notn, zbk_not, zbk_n0, zbk_0, zb_0, zb_n0, zb_not, zb_notn, Bool.not_eq_false, Bool.not_eq_true, Bool.not_eq_true', Bool.not_eq_false', decide_eq_true_eq, decide_eq_false_iff_not, Classical.not_not] at c_201
                                          have hN : ¬ zmay (τ 24) (τ 23) ne (nI W) a b c9 d (k + 1) := fun q => by first | exact absurd (ht.mpr ⟨q.1, fun j hj => q.2 j (by omega)⟩) (by rw [c_181]; decide) | exact (q.2 k (by omega)).1 ⟨c_122, c_137, c_153, c_169⟩ | (have q9 := (q.2 k (by omega)).2; rw [eC] at q9; omega)
                                          refine z_iconst (v := nI 0) X (by decide) dX9_entry_208 ?_
                                          refine z_istore X dX9_entry_209 (by decide) ?_
                                          refine z_inc1 X dX9_entry_211 rfl (by decide) ?_
                                          refine z_goto (tgt := 103) X dX9_entry_214 (by decide) ?_
                                          first | exact ih_103 (k + 1) true _ (by omega) ⟨fun _ => hY, fun _ => rfl⟩ (by omega) | exact ih_103 (k + 1) false _ (by omega) ⟨fun q => absurd q (by decide), fun q => absurd q hN⟩ (by omega)
                                        · skip
                                          try simp (disch := omega) only [zk0, nI_leI, nI_ltI, nI_eq, zbk_notn, zbk_not, zbk_n0, zbk_0, zb_0, zb_n0, zb_not, zb_notn, Bool.not_eq_false, Bool.not_eq_true, Bool.not_eq_true', Bool.not_eq_false', decide_eq_true_eq, decide_eq_false_iff_not, Classical.not_not] at c_201
                                          have hY : zmay (τ 24) (τ 23) ne (nI W) a b c9 d (k + 1) := ⟨(ht.mp c_181).1, fun j hj => by rcases Nat.lt_or_ge j k with h | h; exact (ht.mp c_181).2 j h; (have e : j = k := by omega); subst e; exact ⟨fun q => by first | exact c_122 q.1 | exact c_137 q.2.1 | exact c_153 q.2.2.1 | exact c_169 q.2.2.2, by rw [eC]; omega⟩⟩
                                          refine z_iconst (v := nI 1) X (by decide) dX9_entry_204 ?_
                                          refine z_goto (tgt := 209) X dX9_entry_205 (by decide) ?_
                                          refine z_istore X dX9_entry_209 (by decide) ?_
                                          refine z_inc1 X dX9_entry_211 rfl (by decide) ?_
                                          refine z_goto (tgt := 103) X dX9_entry_214 (by decide) ?_
                                          first | exact ih_103 (k + 1) true _ (by omega) ⟨fun _ => hY, fun _ => rfl⟩ (by omega) | exact ih_103 (k + 1) false _ (by omega) ⟨fun q => absurd q (by decide), fun q => absurd q hN⟩ (by omega)
                                  · skip
                                    refine z_aload_n X dX9_entry_156 rfl ?_
                                    refine z_getr2 X fX9_16 (zso_21 hS) (zsr_21_4 hS) rfl dX9_entry_157 ?_
                                    refine z_iconst (v := nI 4) X (by decide) dX9_entry_160 ?_
                                    refine z_iload X dX9_entry_161 rfl ?_
                                    refine z_imulN X dX9_entry_163 ?_
                                    refine z_iconst (v := nI 3) X (by decide) dX9_entry_164 ?_
                                    refine z_iaddN X dX9_entry_165 ?_
                                    refine z_ialdN X (zsa_24 hS) (by omega) (by omega) dX9_entry_166 ?_
                                    refine z_iload X dX9_entry_167 rfl ?_
                                    refine z_icmp_ne (tgt := 176) X dX9_entry_169 (by decide) (fun c_169 => ?_) (fun c_169 => ?_)
                                    · skip
                                      refine z_iconst (v := nI 0) X (by decide) dX9_entry_176 ?_
                                      refine z_istore X dX9_entry_177 (by decide) ?_
                                      refine z_iload X dX9_entry_179 rfl ?_
                                      refine z_if_eq (tgt := 208) X dX9_entry_181 (by decide) (fun c_181 => ?_) (fun c_181 => ?_)
                                      · skip
                                        try simp (disch := omega) only [zb_notn, zb_not, zb_n0, zb_0, Bool.not_eq_false, Bool.not_eq_true, Bool.not_eq_true', Bool.not_eq_false', decide_eq_true_eq, decide_eq_false_iff_not, Classical.not_not] at c_181
                                        have hN : ¬ zmay (τ 24) (τ 23) ne (nI W) a b c9 d (k + 1) := fun q => by first | exact absurd (ht.mpr ⟨q.1, fun j hj => q.2 j (by omega)⟩) (by rw [c_181]; decide) | exact (q.2 k (by omega)).1 ⟨c_122, c_137, c_153, c_169⟩ | (have q9 := (q.2 k (by omega)).2; rw [eC] at q9; omega)
                                        refine z_iconst (v := nI 0) X (by decide) dX9_entry_208 ?_
                                        refine z_istore X dX9_entry_209 (by decide) ?_
                                        refine z_inc1 X dX9_entry_211 rfl (by decide) ?_
                                        refine z_goto (tgt := 103) X dX9_entry_214 (by decide) ?_
                                        first | exact ih_103 (k + 1) true _ (by omega) ⟨fun _ => hY, fun _ => rfl⟩ (by omega) | exact ih_103 (k + 1) false _ (by omega) ⟨fun q => absurd q (by decide), fun q => absurd q hN⟩ (by omega)
                                      · skip
                                        try simp (disch := omega) only [zb_notn, zb_not, zb_n0, zb_0, Bool.not_eq_false, Bool.not_eq_true, Bool.not_eq_true', Bool.not_eq_false', decide_eq_true_eq, decide_eq_false_iff_not, Classical.not_not] at c_181
                                        refine z_iload X dX9_entry_184 rfl ?_
                                        refine z_if_ne (tgt := 208) X dX9_entry_186 (by decide) (fun c_186 => ?_) (fun c_186 => ?_)
                                        · first | exact absurd c_186 (by decide) | exact absurd (by decide) c_186
                                        · skip
                                          refine z_aload_n X dX9_entry_189 rfl ?_
                                          refine z_getr2 X fX9_13 (zso_21 hS) (zsr_21_3 hS) rfl dX9_entry_190 ?_
                                          refine z_iload X dX9_entry_193 rfl ?_
                                          refine z_ialdN X (zsa_23 hS) (by omega) (by omega) dX9_entry_195 ?_
                                          refine z_iload_n X dX9_entry_196 rfl ?_
                                          obtain ⟨Ck, hCk, eC⟩ := hCτ k (by omega)
                                          have hz5 := zpk_le (nI Ck) (nI W) 5
                                          replace hz5 : zp (nI Ck) (nI W) ≤ 5 := hz5
                                          rw [eC]
                                          refine z_runS X kX9_147 (tX9_parts _ _ (by omega) (by omega)) rfl rfl (Nat.le_of_ble_eq_true rfl) ⟨by decide, by decide⟩ ⟨by decide, by decide⟩ dX9_entry_197 ?_
                                          rintro _ g1 s1 ⟨rfl, h8, h9⟩
                                          replace h8 := h8.symm
                                          subst h8
                                          replace h9 := h9.symm
                                          subst h9
                                          refine z_iconst (v := nI 1) X (by decide) dX9_entry_200 ?_
                                          refine z_icmp_le (tgt := 208) X dX9_entry_201 (by decide) (fun c_201 => ?_) (fun c_201 => ?_)
                                          · skip
                                            try simp (disch := omega) only [zk0, nI_leI, nI_ltI, nI_eq, zbk_notn, zbk_not, zbk_n0, zbk_0, zb_0, zb_n0, zb_not, zb_notn, Bool.not_eq_false, Bool.not_eq_true, Bool.not_eq_true', Bool.not_eq_false', decide_eq_true_eq, decide_eq_false_iff_not, Classical.not_not] at c_201
                                            have hN : ¬ zmay (τ 24) (τ 23) ne (nI W) a b c9 d (k + 1) := fun q => by first | exact absurd (ht.mpr ⟨q.1, fun j hj => q.2 j (by omega)⟩) (by rw [c_181]; decide) | exact (q.2 k (by omega)).1 ⟨c_122, c_137, c_153, c_169⟩ | (have q9 := (q.2 k (by omega)).2; rw [eC] at q9; omega)
                                            refine z_iconst (v := nI 0) X (by decide) dX9_entry_208 ?_
                                            refine z_istore X dX9_entry_209 (by decide) ?_
                                            refine z_inc1 X dX9_entry_211 rfl (by decide) ?_
                                            refine z_goto (tgt := 103) X dX9_entry_214 (by decide) ?_
                                            first | exact ih_103 (k + 1) true _ (by omega) ⟨fun _ => hY, fun _ => rfl⟩ (by omega) | exact ih_103 (k + 1) false _ (by omega) ⟨fun q => absurd q (by decide), fun q => absurd q hN⟩ (by omega)
                                          · skip
                                            try simp (disch := omega) only [zk0, nI_leI, nI_ltI, nI_eq, zbk_notn, zbk_not, zbk_n0, zbk_0, zb_0, zb_n0, zb_not, zb_notn, Bool.not_eq_false, Bool.not_eq_true, Bool.not_eq_true', Bool.not_eq_false', decide_eq_true_eq, decide_eq_false_iff_not, Classical.not_not] at c_201
                                            have hY : zmay (τ 24) (τ 23) ne (nI W) a b c9 d (k + 1) := ⟨(ht.mp c_181).1, fun j hj => by rcases Nat.lt_or_ge j k with h | h; exact (ht.mp c_181).2 j h; (have e : j = k := by omega); subst e; exact ⟨fun q => by first | exact c_122 q.1 | exact c_137 q.2.1 | exact c_153 q.2.2.1 | exact c_169 q.2.2.2, by rw [eC]; omega⟩⟩
                                            refine z_iconst (v := nI 1) X (by decide) dX9_entry_204 ?_
                                            refine z_goto (tgt := 209) X dX9_entry_205 (by decide) ?_
                                            refine z_istore X dX9_entry_209 (by decide) ?_
                                            refine z_inc1 X dX9_entry_211 rfl (by decide) ?_
                                            refine z_goto (tgt := 103) X dX9_entry_214 (by decide) ?_
                                            first | exact ih_103 (k + 1) true _ (by omega) ⟨fun _ => hY, fun _ => rfl⟩ (by omega) | exact ih_103 (k + 1) false _ (by omega) ⟨fun q => absurd q (by decide), fun q => absurd q hN⟩ (by omega)
                                    · skip
                                      refine z_iconst (v := nI 1) X (by decide) dX9_entry_172 ?_
                                      refine z_goto (tgt := 177) X dX9_entry_173 (by decide) ?_
                                      refine z_istore X dX9_entry_177 (by decide) ?_
                                      refine z_iload X dX9_entry_179 rfl ?_
                                      refine z_if_eq (tgt := 208) X dX9_entry_181 (by decide) (fun c_181 => ?_) (fun c_181 => ?_)
                                      · skip
                                        try simp (disch := omega) only [zb_notn, zb_not, zb_n0, zb_0, Bool.not_eq_false, Bool.not_eq_true, Bool.not_eq_true', Bool.not_eq_false', decide_eq_true_eq, decide_eq_false_iff_not, Classical.not_not] at c_181
                                        have hN : ¬ zmay (τ 24) (τ 23) ne (nI W) a b c9 d (k + 1) := fun q => by first | exact absurd (ht.mpr ⟨q.1, fun j hj => q.2 j (by omega)⟩) (by rw [c_181]; decide) | exact (q.2 k (by omega)).1 ⟨c_122, c_137, c_153, c_169⟩ | (have q9 := (q.2 k (by omega)).2; rw [eC] at q9; omega)
                                        refine z_iconst (v := nI 0) X (by decide) dX9_entry_208 ?_
                                        refine z_istore X dX9_entry_209 (by decide) ?_
                                        refine z_inc1 X dX9_entry_211 rfl (by decide) ?_
                                        refine z_goto (tgt := 103) X dX9_entry_214 (by decide) ?_
                                        first | exact ih_103 (k + 1) true _ (by omega) ⟨fun _ => hY, fun _ => rfl⟩ (by omega) | exact ih_103 (k + 1) false _ (by omega) ⟨fun q => absurd q (by decide), fun q => absurd q hN⟩ (by omega)
                                      · skip
                                        try simp (disch := omega) only [zb_notn, zb_not, zb_n0, zb_0, Bool.not_eq_false, Bool.not_eq_true, Bool.not_eq_true', Bool.not_eq_false', decide_eq_true_eq, decide_eq_false_iff_not, Classical.not_not] at c_181
                                        refine z_iload X dX9_entry_184 rfl ?_
                                        refine z_if_ne (tgt := 208) X dX9_entry_186 (by decide) (fun c_186 => ?_) (fun c_186 => ?_)
                                        · skip
                                          have hN : ¬ zmay (τ 24) (τ 23) ne (nI W) a b c9 d (k + 1) := fun q => by first | exact absurd (ht.mpr ⟨q.1, fun j hj => q.2 j (by omega)⟩) (by rw [c_181]; decide) | exact (q.2 k (by omega)).1 ⟨c_122, c_137, c_153, c_169⟩ | (have q9 := (q.2 k (by omega)).2; rw [eC] at q9; omega)
                                          refine z_iconst (v := nI 0) X (by decide) dX9_entry_208 ?_
                                          refine z_istore X dX9_entry_209 (by decide) ?_
                                          refine z_inc1 X dX9_entry_211 rfl (by decide) ?_
                                          refine z_goto (tgt := 103) X dX9_entry_214 (by decide) ?_
                                          first | exact ih_103 (k + 1) true _ (by omega) ⟨fun _ => hY, fun _ => rfl⟩ (by omega) | exact ih_103 (k + 1) false _ (by omega) ⟨fun q => absurd q (by decide), fun q => absurd q hN⟩ (by omega)
                                        · first | exact absurd c_186 (by decide) | exact absurd (by decide) c_186
                        refine z_iconst (v := nI 0) X (by decide) dX9_entry_100 ?_
                        refine z_istore X dX9_entry_101 (by decide) ?_
                        exact loop_103 (ne - 0 + 1) 0 _ _ (Nat.zero_le _) ht0 (by omega)
                      · skip
                        try simp (disch := omega) only [zk0, nI_leI, nI_ltI, nI_eq, zbk_notn, zbk_not, zbk_n0, zbk_0, zb_0, zb_n0, zb_not, zb_notn, Bool.not_eq_false, Bool.not_eq_true, Bool.not_eq_true', Bool.not_eq_false', decide_eq_true_eq, decide_eq_false_iff_not, Classical.not_not] at c_90
                        refine z_iconst (v := nI 1) X (by decide) dX9_entry_93 ?_
                        refine z_goto (tgt := 98) X dX9_entry_94 (by decide) ?_
                        first | (have ht0 : true = true ↔ zmay (τ 24) (τ 23) ne (nI W) a b c9 d 0 := ⟨fun _ => ⟨by omega, fun j hj => absurd hj (Nat.not_lt_zero _)⟩, fun _ => rfl⟩; rw [show Value.int (nI 1) = Value.int (zb true) from rfl]) | (have ht0 : false = true ↔ zmay (τ 24) (τ 23) ne (nI W) a b c9 d 0 := ⟨fun q => absurd q (by decide), fun q => by have := q.1; omega⟩; rw [show Value.int (nI 0) = Value.int (zb false) from rfl])
                        refine z_istore X dX9_entry_98 (by decide) ?_
                        have loop_103 : ∀ (n : Nat) (k : Nat) (t : Bool) (v8 : Option Value) (hk : k ≤ ne) (ht : t = true ↔ zmay (τ 24) (τ 23) ne (nI W) a b c9 d k) (hn : ne - k < n), z_V p l e (zRm MX9_entry) s m args below meth c 9 D cy z0 0 0 (zQm MX9_entry below D cy z0 (fun v g' σ' => g' = g ∧ ∃ r, v = some (.int r) ∧ zMP (zx_entry ρ ni ne (nI W) a b c9 d) σ σ' (r = nI ne ∧ σ' = z_up (z_up (z_up (z_up (z_up (z_up (z_up σ 21 48 0) 23 ne (nI W)) 24 (4 * ne) a) 24 (4 * ne + 1) b) 24 (4 * ne + 2) c9) 24 (4 * ne + 3) d) 21 2 (nI (ne + 1)))) args s) 103 [some (.ref (g.2.1 21)), some (.int (nI W)), some (.int a), some (.int b), some (.int c9), some (.int d), some (.int (zb t)), some (.int (nI k)), v8] [] g τ := by
                          intro n
                          induction n with
                          | zero => intro k t v8 hk ht hn; exact absurd hn (Nat.not_lt_zero _)
                          | succ n ih_103 =>
                            intro k t v8 hk ht hn
                            refine z_iload X dX9_entry_103 rfl ?_
                            refine z_aload_n X dX9_entry_105 rfl ?_
                            refine z_geti X fX9_168 (zso_21 hS) rfl dX9_entry_106 ?_
                            rw [heτ]
                            refine z_icmp_ge (tgt := 217) X dX9_entry_109 (by decide) (fun c_109 => ?_) (fun c_109 => ?_)
                            · skip
                              try simp (disch := omega) only [zk0, nI_leI, nI_ltI, nI_eq, zbk_notn, zbk_not, zbk_n0, zbk_0, zb_0, zb_n0, zb_not, zb_notn, Bool.not_eq_false, Bool.not_eq_true, Bool.not_eq_true', Bool.not_eq_false', decide_eq_true_eq, decide_eq_false_iff_not, Classical.not_not] at c_109
                              have e : ne = k := by omega
                              subst e
                              refine z_iload X dX9_entry_217 rfl ?_
                              refine z_if_ne (tgt := 228) X dX9_entry_219 (by decide) (fun c_219 => ?_) (fun c_219 => ?_)
                              · skip
                                try simp (disch := omega) only [zb_notn, zb_not, zb_n0, zb_0, Bool.not_eq_false, Bool.not_eq_true, Bool.not_eq_true', Bool.not_eq_false', decide_eq_true_eq, decide_eq_false_iff_not, Classical.not_not] at c_219
                                have h40 : ne < 40 := (ht.mp c_219).1
                                refine z_aload_n X dX9_entry_228 rfl ?_
                                refine z_getr2 X fX9_13 (zso_21 hS) (zsr_21_3 hS) rfl dX9_entry_229 ?_
                                refine z_aload_n X dX9_entry_232 rfl ?_
                                refine z_geti X fX9_168 (zso_21 hS) rfl dX9_entry_233 ?_
                                rw [heτ]
                                refine z_iload_n X dX9_entry_236 rfl ?_
                                refine z_iastN X (zsa_23 hS) (by omega) (by omega) dX9_entry_237 ?_
                                refine z_aload_n X dX9_entry_238 rfl ?_
                                refine z_getr2 X fX9_16 (zso_21 hS) (zsr_21_4 hS) rfl dX9_entry_239 ?_
                                refine z_iconst (v := nI 4) X (by decide) dX9_entry_242 ?_
                                refine z_aload_n X dX9_entry_243 rfl ?_
                                refine z_geti X fX9_168 (zso_21 hS) rfl dX9_entry_244 ?_
                                repeat rw [z_up_ne (by decide)]
                                rw [heτ]
                                refine z_imulN X dX9_entry_247 ?_
                                refine z_iload_n X dX9_entry_248 rfl ?_
                                refine z_iastN X (zsa_24 hS) (by omega) (by omega) dX9_entry_249 ?_
                                refine z_aload_n X dX9_entry_250 rfl ?_
                                refine z_getr2 X fX9_16 (zso_21 hS) (zsr_21_4 hS) rfl dX9_entry_251 ?_
                                refine z_iconst (v := nI 4) X (by decide) dX9_entry_254 ?_
                                refine z_aload_n X dX9_entry_255 rfl ?_
                                refine z_geti X fX9_168 (zso_21 hS) rfl dX9_entry_256 ?_
                                repeat rw [z_up_ne (by decide)]
                                rw [heτ]
                                refine z_imulN X dX9_entry_259 ?_
                                refine z_iconst (v := nI 1) X (by decide) dX9_entry_260 ?_
                                refine z_iaddN X dX9_entry_261 ?_
                                refine z_iload_n X dX9_entry_262 rfl ?_
                                refine z_iastN X (zsa_24 hS) (by omega) (by omega) dX9_entry_263 ?_
                                refine z_aload_n X dX9_entry_264 rfl ?_
                                refine z_getr2 X fX9_16 (zso_21 hS) (zsr_21_4 hS) rfl dX9_entry_265 ?_
                                refine z_iconst (v := nI 4) X (by decide) dX9_entry_268 ?_
                                refine z_aload_n X dX9_entry_269 rfl ?_
                                refine z_geti X fX9_168 (zso_21 hS) rfl dX9_entry_270 ?_
                                repeat rw [z_up_ne (by decide)]
                                rw [heτ]
                                refine z_imulN X dX9_entry_273 ?_
                                refine z_iconst (v := nI 2) X (by decide) dX9_entry_274 ?_
                                refine z_iaddN X dX9_entry_275 ?_
                                refine z_iload X dX9_entry_276 rfl ?_
                                refine z_iastN X (zsa_24 hS) (by omega) (by omega) dX9_entry_278 ?_
                                refine z_aload_n X dX9_entry_279 rfl ?_
                                refine z_getr2 X fX9_16 (zso_21 hS) (zsr_21_4 hS) rfl dX9_entry_280 ?_
                                refine z_iconst (v := nI 4) X (by decide) dX9_entry_283 ?_
                                refine z_aload_n X dX9_entry_284 rfl ?_
                                refine z_geti X fX9_168 (zso_21 hS) rfl dX9_entry_285 ?_
                                repeat rw [z_up_ne (by decide)]
                                rw [heτ]
                                refine z_imulN X dX9_entry_288 ?_
                                refine z_iconst (v := nI 3) X (by decide) dX9_entry_289 ?_
                                refine z_iaddN X dX9_entry_290 ?_
                                refine z_iload X dX9_entry_291 rfl ?_
                                refine z_iastN X (zsa_24 hS) (by omega) (by omega) dX9_entry_293 ?_
                                refine z_aload_n X dX9_entry_294 rfl ?_
                                refine z_dup X rfl dX9_entry_295 ?_
                                refine z_geti X fX9_168 (zso_21 hS) rfl dX9_entry_296 ?_
                                repeat rw [z_up_ne (by decide)]
                                rw [heτ]
                                refine z_iconst (v := nI 1) X (by decide) dX9_entry_299 ?_
                                refine z_iaddN X dX9_entry_300 ?_
                                refine z_puti X fX9_168 (zso_21 hS) rfl dX9_entry_301 ?_
                                refine z_aload_n X dX9_entry_304 rfl ?_
                                refine z_geti X fX9_168 (zso_21 hS) rfl dX9_entry_305 ?_
                                rw [z_up_app, if_pos rfl, if_pos rfl]
                                refine z_iconst (v := nI 1) X (by decide) dX9_entry_308 ?_
                                refine z_isubN X (by omega) dX9_entry_309 ?_
                                refine z_iret X (by decide) (by decide) rfl dX9_entry_310 ?_
                                exact ⟨rfl, _, rfl, Or.inr ⟨by unfold zx_entry; rw [if_neg (fun q => q ⟨c_6, c_14, c_23, c_32⟩), if_neg (fun q => by rcases q with q | ⟨q1, q2⟩ | ⟨q1, q2⟩; exact c_52 q; (first | exact c_57 q1 | exact q2 c_63); (first | exact c_69 q1 | exact q2 c_75)), zif_f (zmay_t e4 e5 eτ (ht.mp c_219))], by congr 1, by rw [hτ]⟩⟩
                              · skip
                                try simp (disch := omega) only [zb_notn, zb_not, zb_n0, zb_0, Bool.not_eq_false, Bool.not_eq_true, Bool.not_eq_true', Bool.not_eq_false', decide_eq_true_eq, decide_eq_false_iff_not, Classical.not_not] at c_219
                                refine z_aload_n X dX9_entry_222 rfl ?_
                                refine z_iconst (v := 3) X (by decide) dX9_entry_223 ?_
                                refine z_runV X kX9_154 (tX9_fails _ hS) (zso_21 hS) rfl rfl (Nat.le_of_ble_eq_true rfl) ⟨by decide, by decide⟩ ⟨by decide, by decide⟩ dX9_entry_224 ?_
                                rintro _ g1 s1 ⟨rfl, h8, h9⟩
                                replace h8 := h8.symm
                                subst h8
                                replace h9 := h9.symm
                                subst h9
                                refine z_iret X (by decide) (by decide) rfl dX9_entry_227 ?_
                                exact ⟨rfl, _, rfl, by rw [hτ]; exact zMP_2 (j := 2) (by unfold zx_entry; rw [if_neg (fun q => q ⟨c_6, c_14, c_23, c_32⟩), if_neg (fun q => by rcases q with q | ⟨q1, q2⟩ | ⟨q1, q2⟩; exact c_52 q; (first | exact c_57 q1 | exact q2 c_63); (first | exact c_69 q1 | exact q2 c_75)), zif_t (zmay_f e4 e5 eτ (by omega) (fun q => absurd (ht.mpr q) (by rw [c_219]; decide)))]) rfl⟩
                            · skip
                              try simp (disch := omega) only [zk0, nI_leI, nI_ltI, nI_eq, zbk_notn, zbk_not, zbk_n0, zbk_0, zb_0, zb_n0, zb_not, zb_notn, Bool.not_eq_false, Bool.not_eq_true, Bool.not_eq_true', Bool.not_eq_false', decide_eq_true_eq, decide_eq_false_iff_not, Classical.not_not] at c_109
                              refine z_aload_n X dX9_entry_112 rfl ?_
                              refine z_getr2 X fX9_16 (zso_21 hS) (zsr_21_4 hS) rfl dX9_entry_113 ?_
                              refine z_iconst (v := nI 4) X (by decide) dX9_entry_116 ?_
                              refine z_iload X dX9_entry_117 rfl ?_
                              refine z_imulN X dX9_entry_119 ?_
                              refine z_ialdN X (zsa_24 hS) (by omega) (by omega) dX9_entry_120 ?_
                              refine z_iload_n X dX9_entry_121 rfl ?_
                              refine z_icmp_ne (tgt := 176) X dX9_entry_122 (by decide) (fun c_122 => ?_) (fun c_122 => ?_)
                              · skip
                                refine z_iconst (v := nI 0) X (by decide) dX9_entry_176 ?_
                                refine z_istore X dX9_entry_177 (by decide) ?_
                                refine z_iload X dX9_entry_179 rfl ?_
                                refine z_if_eq (tgt := 208) X dX9_entry_181 (by decide) (fun c_181 => ?_) (fun c_181 => ?_)
                                · skip
                                  try simp (disch := omega) only [zb_notn, zb_not, zb_n0, zb_0, Bool.not_eq_false, Bool.not_eq_true, Bool.not_eq_true', Bool.not_eq_false', decide_eq_true_eq, decide_eq_false_iff_not, Classical.not_not] at c_181
                                  have hN : ¬ zmay (τ 24) (τ 23) ne (nI W) a b c9 d (k + 1) := fun q => by first | exact absurd (ht.mpr ⟨q.1, fun j hj => q.2 j (by omega)⟩) (by rw [c_181]; decide) | exact (q.2 k (by omega)).1 ⟨c_122, c_137, c_153, c_169⟩ | (have q9 := (q.2 k (by omega)).2; rw [eC] at q9; omega)
                                  refine z_iconst (v := nI 0) X (by decide) dX9_entry_208 ?_
                                  refine z_istore X dX9_entry_209 (by decide) ?_
                                  refine z_inc1 X dX9_entry_211 rfl (by decide) ?_
                                  refine z_goto (tgt := 103) X dX9_entry_214 (by decide) ?_
                                  first | exact ih_103 (k + 1) true _ (by omega) ⟨fun _ => hY, fun _ => rfl⟩ (by omega) | exact ih_103 (k + 1) false _ (by omega) ⟨fun q => absurd q (by decide), fun q => absurd q hN⟩ (by omega)
                                · skip
                                  try simp (disch := omega) only [zb_notn, zb_not, zb_n0, zb_0, Bool.not_eq_false, Bool.not_eq_true, Bool.not_eq_true', Bool.not_eq_false', decide_eq_true_eq, decide_eq_false_iff_not, Classical.not_not] at c_181
                                  refine z_iload X dX9_entry_184 rfl ?_
                                  refine z_if_ne (tgt := 208) X dX9_entry_186 (by decide) (fun c_186 => ?_) (fun c_186 => ?_)
                                  · first | exact absurd c_186 (by decide) | exact absurd (by decide) c_186
                                  · skip
                                    refine z_aload_n X dX9_entry_189 rfl ?_
                                    refine z_getr2 X fX9_13 (zso_21 hS) (zsr_21_3 hS) rfl dX9_entry_190 ?_
                                    refine z_iload X dX9_entry_193 rfl ?_
                                    refine z_ialdN X (zsa_23 hS) (by omega) (by omega) dX9_entry_195 ?_
                                    refine z_iload_n X dX9_entry_196 rfl ?_
                                    obtain ⟨Ck, hCk, eC⟩ := hCτ k (by omega)
                                    have hz5 := zpk_le (nI Ck) (nI W) 5
                                    replace hz5 : zp (nI Ck) (nI W) ≤ 5 := hz5
                                    rw [eC]
                                    refine z_runS X kX9_147 (tX9_parts _ _ (by omega) (by omega)) rfl rfl (Nat.le_of_ble_eq_true rfl) ⟨by decide, by decide⟩ ⟨by decide, by decide⟩ dX9_entry_197 ?_
                                    rintro _ g1 s1 ⟨rfl, h8, h9⟩
                                    replace h8 := h8.symm
                                    subst h8
                                    replace h9 := h9.symm
                                    subst h9
                                    refine z_iconst (v := nI 1) X (by decide) dX9_entry_200 ?_
                                    refine z_icmp_le (tgt := 208) X dX9_entry_201 (by decide) (fun c_201 => ?_) (fun c_201 => ?_)
                                    · skip
                                      try simp (disch := omega) only [zk0, nI_leI, nI_ltI, nI_eq, zbk_notn, zbk_not, zbk_n0, zbk_0, zb_0, zb_n0, zb_not, zb_notn, Bool.not_eq_false, Bool.not_eq_true, Bool.not_eq_true', Bool.not_eq_false', decide_eq_true_eq, decide_eq_false_iff_not, Classical.not_not] at c_201
                                      have hN : ¬ zmay (τ 24) (τ 23) ne (nI W) a b c9 d (k + 1) := fun q => by first | exact absurd (ht.mpr ⟨q.1, fun j hj => q.2 j (by omega)⟩) (by rw [c_181]; decide) | exact (q.2 k (by omega)).1 ⟨c_122, c_137, c_153, c_169⟩ | (have q9 := (q.2 k (by omega)).2; rw [eC] at q9; omega)
                                      refine z_iconst (v := nI 0) X (by decide) dX9_entry_208 ?_
                                      refine z_istore X dX9_entry_209 (by decide) ?_
                                      refine z_inc1 X dX9_entry_211 rfl (by decide) ?_
                                      refine z_goto (tgt := 103) X dX9_entry_214 (by decide) ?_
                                      first | exact ih_103 (k + 1) true _ (by omega) ⟨fun _ => hY, fun _ => rfl⟩ (by omega) | exact ih_103 (k + 1) false _ (by omega) ⟨fun q => absurd q (by decide), fun q => absurd q hN⟩ (by omega)
                                    · skip
                                      try simp (disch := omega) only [zk0, nI_leI, nI_ltI, nI_eq, zbk_notn, zbk_not, zbk_n0, zbk_0, zb_0, zb_n0, zb_not, zb_notn, Bool.not_eq_false, Bool.not_eq_true, Bool.not_eq_true', Bool.not_eq_false', decide_eq_true_eq, decide_eq_false_iff_not, Classical.not_not] at c_201
                                      have hY : zmay (τ 24) (τ 23) ne (nI W) a b c9 d (k + 1) := ⟨(ht.mp c_181).1, fun j hj => by rcases Nat.lt_or_ge j k with h | h; exact (ht.mp c_181).2 j h; (have e : j = k := by omega); subst e; exact ⟨fun q => by first | exact c_122 q.1 | exact c_137 q.2.1 | exact c_153 q.2.2.1 | exact c_169 q.2.2.2, by rw [eC]; omega⟩⟩
                                      refine z_iconst (v := nI 1) X (by decide) dX9_entry_204 ?_
                                      refine z_goto (tgt := 209) X dX9_entry_205 (by decide) ?_
                                      refine z_istore X dX9_entry_209 (by decide) ?_
                                      refine z_inc1 X dX9_entry_211 rfl (by decide) ?_
                                      refine z_goto (tgt := 103) X dX9_entry_214 (by decide) ?_
                                      first | exact ih_103 (k + 1) true _ (by omega) ⟨fun _ => hY, fun _ => rfl⟩ (by omega) | exact ih_103 (k + 1) false _ (by omega) ⟨fun q => absurd q (by decide), fun q => absurd q hN⟩ (by omega)
                              · skip
                                refine z_aload_n X dX9_entry_125 rfl ?_
                                refine z_getr2 X fX9_16 (zso_21 hS) (zsr_21_4 hS) rfl dX9_entry_126 ?_
                                refine z_iconst (v := nI 4) X (by decide) dX9_entry_129 ?_
                                refine z_iload X dX9_entry_130 rfl ?_
                                refine z_imulN X dX9_entry_132 ?_
                                refine z_iconst (v := nI 1) X (by decide) dX9_entry_133 ?_
                                refine z_iaddN X dX9_entry_134 ?_
                                refine z_ialdN X (zsa_24 hS) (by omega) (by omega) dX9_entry_135 ?_
                                refine z_iload_n X dX9_entry_136 rfl ?_
                                refine z_icmp_ne (tgt := 176) X dX9_entry_137 (by decide) (fun c_137 => ?_) (fun c_137 => ?_)
                                · skip
                                  refine z_iconst (v := nI 0) X (by decide) dX9_entry_176 ?_
                                  refine z_istore X dX9_entry_177 (by decide) ?_
                                  refine z_iload X dX9_entry_179 rfl ?_
                                  refine z_if_eq (tgt := 208) X dX9_entry_181 (by decide) (fun c_181 => ?_) (fun c_181 => ?_)
                                  · skip
                                    try simp (disch := omega) only [zb_notn, zb_not, zb_n0, zb_0, Bool.not_eq_false, Bool.not_eq_true, Bool.not_eq_true', Bool.not_eq_false', decide_eq_true_eq, decide_eq_false_iff_not, Classical.not_not] at c_181
                                    have hN : ¬ zmay (τ 24) (τ 23) ne (nI W) a b c9 d (k + 1) := fun q => by first | exact absurd (ht.mpr ⟨q.1, fun j hj => q.2 j (by omega)⟩) (by rw [c_181]; decide) | exact (q.2 k (by omega)).1 ⟨c_122, c_137, c_153, c_169⟩ | (have q9 := (q.2 k (by omega)).2; rw [eC] at q9; omega)
                                    refine z_iconst (v := nI 0) X (by decide) dX9_entry_208 ?_
                                    refine z_istore X dX9_entry_209 (by decide) ?_
                                    refine z_inc1 X dX9_entry_211 rfl (by decide) ?_
                                    refine z_goto (tgt := 103) X dX9_entry_214 (by decide) ?_
                                    first | exact ih_103 (k + 1) true _ (by omega) ⟨fun _ => hY, fun _ => rfl⟩ (by omega) | exact ih_103 (k + 1) false _ (by omega) ⟨fun q => absurd q (by decide), fun q => absurd q hN⟩ (by omega)
                                  · skip
                                    try simp (disch := omega) only [zb_notn, zb_not, zb_n0, zb_0, Bool.not_eq_false, Bool.not_eq_true, Bool.not_eq_true', Bool.not_eq_false', decide_eq_true_eq, decide_eq_false_iff_not, Classical.not_not] at c_181
                                    refine z_iload X dX9_entry_184 rfl ?_
                                    refine z_if_ne (tgt := 208) X dX9_entry_186 (by decide) (fun c_186 => ?_) (fun c_186 => ?_)
                                    · first | exact absurd c_186 (by decide) | exact absurd (by decide) c_186
                                    · skip
                                      refine z_aload_n X dX9_entry_189 rfl ?_
                                      refine z_getr2 X fX9_13 (zso_21 hS) (zsr_21_3 hS) rfl dX9_entry_190 ?_
                                      refine z_iload X dX9_entry_193 rfl ?_
                                      refine z_ialdN X (zsa_23 hS) (by omega) (by omega) dX9_entry_195 ?_
                                      refine z_iload_n X dX9_entry_196 rfl ?_
                                      obtain ⟨Ck, hCk, eC⟩ := hCτ k (by omega)
                                      have hz5 := zpk_le (nI Ck) (nI W) 5
                                      replace hz5 : zp (nI Ck) (nI W) ≤ 5 := hz5
                                      rw [eC]
                                      refine z_runS X kX9_147 (tX9_parts _ _ (by omega) (by omega)) rfl rfl (Nat.le_of_ble_eq_true rfl) ⟨by decide, by decide⟩ ⟨by decide, by decide⟩ dX9_entry_197 ?_
                                      rintro _ g1 s1 ⟨rfl, h8, h9⟩
                                      replace h8 := h8.symm
                                      subst h8
                                      replace h9 := h9.symm
                                      subst h9
                                      refine z_iconst (v := nI 1) X (by decide) dX9_entry_200 ?_
                                      refine z_icmp_le (tgt := 208) X dX9_entry_201 (by decide) (fun c_201 => ?_) (fun c_201 => ?_)
                                      · skip
                                        try simp (disch := omega) only [zk0, nI_leI, nI_ltI, nI_eq, zbk_notn, zbk_not, zbk_n0, zbk_0, zb_0, zb_n0, zb_not, zb_notn, Bool.not_eq_false, Bool.not_eq_true, Bool.not_eq_true', Bool.not_eq_false', decide_eq_true_eq, decide_eq_false_iff_not, Classical.not_not] at c_201
                                        have hN : ¬ zmay (τ 24) (τ 23) ne (nI W) a b c9 d (k + 1) := fun q => by first | exact absurd (ht.mpr ⟨q.1, fun j hj => q.2 j (by omega)⟩) (by rw [c_181]; decide) | exact (q.2 k (by omega)).1 ⟨c_122, c_137, c_153, c_169⟩ | (have q9 := (q.2 k (by omega)).2; rw [eC] at q9; omega)
                                        refine z_iconst (v := nI 0) X (by decide) dX9_entry_208 ?_
                                        refine z_istore X dX9_entry_209 (by decide) ?_
                                        refine z_inc1 X dX9_entry_211 rfl (by decide) ?_
                                        refine z_goto (tgt := 103) X dX9_entry_214 (by decide) ?_
                                        first | exact ih_103 (k + 1) true _ (by omega) ⟨fun _ => hY, fun _ => rfl⟩ (by omega) | exact ih_103 (k + 1) false _ (by omega) ⟨fun q => absurd q (by decide), fun q => absurd q hN⟩ (by omega)
                                      · skip
                                        try simp (disch := omega) only [zk0, nI_leI, nI_ltI, nI_eq, zbk_notn, zbk_not, zbk_n0, zbk_0, zb_0, zb_n0, zb_not, zb_notn, Bool.not_eq_false, Bool.not_eq_true, Bool.not_eq_true', Bool.not_eq_false', decide_eq_true_eq, decide_eq_false_iff_not, Classical.not_not] at c_201
                                        have hY : zmay (τ 24) (τ 23) ne (nI W) a b c9 d (k + 1) := ⟨(ht.mp c_181).1, fun j hj => by rcases Nat.lt_or_ge j k with h | h; exact (ht.mp c_181).2 j h; (have e : j = k := by omega); subst e; exact ⟨fun q => by first | exact c_122 q.1 | exact c_137 q.2.1 | exact c_153 q.2.2.1 | exact c_169 q.2.2.2, by rw [eC]; omega⟩⟩
                                        refine z_iconst (v := nI 1) X (by decide) dX9_entry_204 ?_
                                        refine z_goto (tgt := 209) X dX9_entry_205 (by decide) ?_
                                        refine z_istore X dX9_entry_209 (by decide) ?_
                                        refine z_inc1 X dX9_entry_211 rfl (by decide) ?_
                                        refine z_goto (tgt := 103) X dX9_entry_214 (by decide) ?_
                                        first | exact ih_103 (k + 1) true _ (by omega) ⟨fun _ => hY, fun _ => rfl⟩ (by omega) | exact ih_103 (k + 1) false _ (by omega) ⟨fun q => absurd q (by decide), fun q => absurd q hN⟩ (by omega)
                                · skip
                                  refine z_aload_n X dX9_entry_140 rfl ?_
                                  refine z_getr2 X fX9_16 (zso_21 hS) (zsr_21_4 hS) rfl dX9_entry_141 ?_
                                  refine z_iconst (v := nI 4) X (by decide) dX9_entry_144 ?_
                                  refine z_iload X dX9_entry_145 rfl ?_
                                  refine z_imulN X dX9_entry_147 ?_
                                  refine z_iconst (v := nI 2) X (by decide) dX9_entry_148 ?_
                                  refine z_iaddN X dX9_entry_149 ?_
                                  refine z_ialdN X (zsa_24 hS) (by omega) (by omega) dX9_entry_150 ?_
                                  refine z_iload X dX9_entry_151 rfl ?_
                                  refine z_icmp_ne (tgt := 176) X dX9_entry_153 (by decide) (fun c_153 => ?_) (fun c_153 => ?_)
                                  · skip
                                    refine z_iconst (v := nI 0) X (by decide) dX9_entry_176 ?_
                                    refine z_istore X dX9_entry_177 (by decide) ?_
                                    refine z_iload X dX9_entry_179 rfl ?_
                                    refine z_if_eq (tgt := 208) X dX9_entry_181 (by decide) (fun c_181 => ?_) (fun c_181 => ?_)
                                    · skip
                                      try simp (disch := omega) only [zb_notn, zb_not, zb_n0, zb_0, Bool.not_eq_false, Bool.not_eq_true, Bool.not_eq_true', Bool.not_eq_false', decide_eq_true_eq, decide_eq_false_iff_not, Classical.not_not] at c_181
                                      have hN : ¬ zmay (τ 24) (τ 23) ne (nI W) a b c9 d (k + 1) := fun q => by first | exact absurd (ht.mpr ⟨q.1, fun j hj => q.2 j (by omega)⟩) (by rw [c_181]; decide) | exact (q.2 k (by omega)).1 ⟨c_122, c_137, c_153, c_169⟩ | (have q9 := (q.2 k (by omega)).2; rw [eC] at q9; omega)
                                      refine z_iconst (v := nI 0) X (by decide) dX9_entry_208 ?_
                                      refine z_istore X dX9_entry_209 (by decide) ?_
                                      refine z_inc1 X dX9_entry_211 rfl (by decide) ?_
                                      refine z_goto (tgt := 103) X dX9_entry_214 (by decide) ?_
                                      first | exact ih_103 (k + 1) true _ (by omega) ⟨fun _ => hY, fun _ => rfl⟩ (by omega) | exact ih_103 (k + 1) false _ (by omega) ⟨fun q => absurd q (by decide), fun q => absurd q hN⟩ (by omega)
                                    · skip
                                      try simp (disch := omega) only [zb_notn, zb_not, zb_n0, zb_0, Bool.not_eq_false, Bool.not_eq_true, Bool.not_eq_true', Bool.not_eq_false', decide_eq_true_eq, decide_eq_false_iff_not, Classical.not_not] at c_181
                                      refine z_iload X dX9_entry_184 rfl ?_
                                      refine z_if_ne (tgt := 208) X dX9_entry_186 (by decide) (fun c_186 => ?_) (fun c_186 => ?_)
                                      · first | exact absurd c_186 (by decide) | exact absurd (by decide) c_186
                                      · skip
                                        refine z_aload_n X dX9_entry_189 rfl ?_
                                        refine z_getr2 X fX9_13 (zso_21 hS) (zsr_21_3 hS) rfl dX9_entry_190 ?_
                                        refine z_iload X dX9_entry_193 rfl ?_
                                        refine z_ialdN X (zsa_23 hS) (by omega) (by omega) dX9_entry_195 ?_
                                        refine z_iload_n X dX9_entry_196 rfl ?_
                                        obtain ⟨Ck, hCk, eC⟩ := hCτ k (by omega)
                                        have hz5 := zpk_le (nI Ck) (nI W) 5
                                        replace hz5 : zp (nI Ck) (nI W) ≤ 5 := hz5
                                        rw [eC]
                                        refine z_runS X kX9_147 (tX9_parts _ _ (by omega) (by omega)) rfl rfl (Nat.le_of_ble_eq_true rfl) ⟨by decide, by decide⟩ ⟨by decide, by decide⟩ dX9_entry_197 ?_
                                        rintro _ g1 s1 ⟨rfl, h8, h9⟩
                                        replace h8 := h8.symm
                                        subst h8
                                        replace h9 := h9.symm
                                        subst h9
                                        refine z_iconst (v := nI 1) X (by decide) dX9_entry_200 ?_
                                        refine z_icmp_le (tgt := 208) X dX9_entry_201 (by decide) (fun c_201 => ?_) (fun c_201 => ?_)
                                        · skip
                                          try simp (disch := omega) only [zk0, nI_leI, nI_ltI, nI_eq, zbk_notn, zbk_not, zbk_n0, zbk_0, zb_0, zb_n0, zb_not, zb_notn, Bool.not_eq_false, Bool.not_eq_true, Bool.not_eq_true', Bool.not_eq_false', decide_eq_true_eq, decide_eq_false_iff_not, Classical.not_not] at c_201
                                          have hN : ¬ zmay (τ 24) (τ 23) ne (nI W) a b c9 d (k + 1) := fun q => by first | exact absurd (ht.mpr ⟨q.1, fun j hj => q.2 j (by omega)⟩) (by rw [c_181]; decide) | exact (q.2 k (by omega)).1 ⟨c_122, c_137, c_153, c_169⟩ | (have q9 := (q.2 k (by omega)).2; rw [eC] at q9; omega)
                                          refine z_iconst (v := nI 0) X (by decide) dX9_entry_208 ?_
                                          refine z_istore X dX9_entry_209 (by decide) ?_
                                          refine z_inc1 X dX9_entry_211 rfl (by decide) ?_
                                          refine z_goto (tgt := 103) X dX9_entry_214 (by decide) ?_
                                          first | exact ih_103 (k + 1) true _ (by omega) ⟨fun _ => hY, fun _ => rfl⟩ (by omega) | exact ih_103 (k + 1) false _ (by omega) ⟨fun q => absurd q (by decide), fun q => absurd q hN⟩ (by omega)
                                        · skip
                                          try simp (disch := omega) only [zk0, nI_leI, nI_ltI, nI_eq, zbk_notn, zbk_not, zbk_n0, zbk_0, zb_0, zb_n0, zb_not, zb_notn, Bool.not_eq_false, Bool.not_eq_true, Bool.not_eq_true', Bool.not_eq_false', decide_eq_true_eq, decide_eq_false_iff_not, Classical.not_not] at c_201
                                          have hY : zmay (τ 24) (τ 23) ne (nI W) a b c9 d (k + 1) := ⟨(ht.mp c_181).1, fun j hj => by rcases Nat.lt_or_ge j k with h | h; exact (ht.mp c_181).2 j h; (have e : j = k := by omega); subst e; exact ⟨fun q => by first | exact c_122 q.1 | exact c_137 q.2.1 | exact c_153 q.2.2.1 | exact c_169 q.2.2.2, by rw [eC]; omega⟩⟩
                                          refine z_iconst (v := nI 1) X (by decide) dX9_entry_204 ?_
                                          refine z_goto (tgt := 209) X dX9_entry_205 (by decide) ?_
                                          refine z_istore X dX9_entry_209 (by decide) ?_
                                          refine z_inc1 X dX9_entry_211 rfl (by decide) ?_
                                          refine z_goto (tgt := 103) X dX9_entry_214 (by decide) ?_
                                          first | exact ih_103 (k + 1) true _ (by omega) ⟨fun _ => hY, fun _ => rfl⟩ (by omega) | exact ih_103 (k + 1) false _ (by omega) ⟨fun q => absurd q (by decide), fun q => absurd q hN⟩ (by omega)
                                  · skip
                                    refine z_aload_n X dX9_entry_156 rfl ?_
                                    refine z_getr2 X fX9_16 (zso_21 hS) (zsr_21_4 hS) rfl dX9_entry_157 ?_
                                    refine z_iconst (v := nI 4) X (by decide) dX9_entry_160 ?_
                                    refine z_iload X dX9_entry_161 rfl ?_
                                    refine z_imulN X dX9_entry_163 ?_
                                    refine z_iconst (v := nI 3) X (by decide) dX9_entry_164 ?_
                                    refine z_iaddN X dX9_entry_165 ?_
                                    refine z_ialdN X (zsa_24 hS) (by omega) (by omega) dX9_entry_166 ?_
                                    refine z_iload X dX9_entry_167 rfl ?_
                                    refine z_icmp_ne (tgt := 176) X dX9_entry_169 (by decide) (fun c_169 => ?_) (fun c_169 => ?_)
                                    · skip
                                      refine z_iconst (v := nI 0) X (by decide) dX9_entry_176 ?_
                                      refine z_istore X dX9_entry_177 (by decide) ?_
                                      refine z_iload X dX9_entry_179 rfl ?_
                                      refine z_if_eq (tgt := 208) X dX9_entry_181 (by decide) (fun c_181 => ?_) (fun c_181 => ?_)
                                      · skip
                                        try simp (disch := omega) only [zb_notn, zb_not, zb_n0, zb_0, Bool.not_eq_false, Bool.not_eq_true, Bool.not_eq_true', Bool.not_eq_false', decide_eq_true_eq, decide_eq_false_iff_not, Classical.not_not] at c_181
                                        have hN : ¬ zmay (τ 24) (τ 23) ne (nI W) a b c9 d (k + 1) := fun q => by first | exact absurd (ht.mpr ⟨q.1, fun j hj => q.2 j (by omega)⟩) (by rw [c_181]; decide) | exact (q.2 k (by omega)).1 ⟨c_122, c_137, c_153, c_169⟩ | (have q9 := (q.2 k (by omega)).2; rw [eC] at q9; omega)
                                        refine z_iconst (v := nI 0) X (by decide) dX9_entry_208 ?_
                                        refine z_istore X dX9_entry_209 (by decide) ?_
                                        refine z_inc1 X dX9_entry_211 rfl (by decide) ?_
                                        refine z_goto (tgt := 103) X dX9_entry_214 (by decide) ?_
                                        first | exact ih_103 (k + 1) true _ (by omega) ⟨fun _ => hY, fun _ => rfl⟩ (by omega) | exact ih_103 (k + 1) false _ (by omega) ⟨fun q => absurd q (by decide), fun q => absurd q hN⟩ (by omega)
                                      · skip
                                        try simp (disch := omega) only [zb_notn, zb_not, zb_n0, zb_0, Bool.not_eq_false, Bool.not_eq_true, Bool.not_eq_true', Bool.not_eq_false', decide_eq_true_eq, decide_eq_false_iff_not, Classical.not_not] at c_181
                                        refine z_iload X dX9_entry_184 rfl ?_
                                        refine z_if_ne (tgt := 208) X dX9_entry_186 (by decide) (fun c_186 => ?_) (fun c_186 => ?_)
                                        · first | exact absurd c_186 (by decide) | exact absurd (by decide) c_186
                                        · skip
                                          refine z_aload_n X dX9_entry_189 rfl ?_
                                          refine z_getr2 X fX9_13 (zso_21 hS) (zsr_21_3 hS) rfl dX9_entry_190 ?_
                                          refine z_iload X dX9_entry_193 rfl ?_
                                          refine z_ialdN X (zsa_23 hS) (by omega) (by omega) dX9_entry_195 ?_
                                          refine z_iload_n X dX9_entry_196 rfl ?_
                                          obtain ⟨Ck, hCk, eC⟩ := hCτ k (by omega)
                                          have hz5 := zpk_le (nI Ck) (nI W) 5
                                          replace hz5 : zp (nI Ck) (nI W) ≤ 5 := hz5
                                          rw [eC]
                                          refine z_runS X kX9_147 (tX9_parts _ _ (by omega) (by omega)) rfl rfl (Nat.le_of_ble_eq_true rfl) ⟨by decide, by decide⟩ ⟨by decide, by decide⟩ dX9_entry_197 ?_
                                          rintro _ g1 s1 ⟨rfl, h8, h9⟩
                                          replace h8 := h8.symm
                                          subst h8
                                          replace h9 := h9.symm
                                          subst h9
                                          refine z_iconst (v := nI 1) X (by decide) dX9_entry_200 ?_
                                          refine z_icmp_le (tgt := 208) X dX9_entry_201 (by decide) (fun c_201 => ?_) (fun c_201 => ?_)
                                          · skip
                                            try simp (disch := omega) only [zk0, nI_leI, nI_ltI, nI_eq, zbk_notn, zbk_not, zbk_n0, zbk_0, zb_0, zb_n0, zb_not, zb_notn, Bool.not_eq_false, Bool.not_eq_true, Bool.not_eq_true', Bool.not_eq_false', decide_eq_true_eq, decide_eq_false_iff_not, Classical.not_not] at c_201
                                            have hN : ¬ zmay (τ 24) (τ 23) ne (nI W) a b c9 d (k + 1) := fun q => by first | exact absurd (ht.mpr ⟨q.1, fun j hj => q.2 j (by omega)⟩) (by rw [c_181]; decide) | exact (q.2 k (by omega)).1 ⟨c_122, c_137, c_153, c_169⟩ | (have q9 := (q.2 k (by omega)).2; rw [eC] at q9; omega)
                                            refine z_iconst (v := nI 0) X (by decide) dX9_entry_208 ?_
                                            refine z_istore X dX9_entry_209 (by decide) ?_
                                            refine z_inc1 X dX9_entry_211 rfl (by decide) ?_
                                            refine z_goto (tgt := 103) X dX9_entry_214 (by decide) ?_
                                            first | exact ih_103 (k + 1) true _ (by omega) ⟨fun _ => hY, fun _ => rfl⟩ (by omega) | exact ih_103 (k + 1) false _ (by omega) ⟨fun q => absurd q (by decide), fun q => absurd q hN⟩ (by omega)
                                          · skip
                                            try simp (disch := omega) only [zk0, nI_leI, nI_ltI, nI_eq, zbk_notn, zbk_not, zbk_n0, zbk_0, zb_0, zb_n0, zb_not, zb_notn, Bool.not_eq_false, Bool.not_eq_true, Bool.not_eq_true', Bool.not_eq_false', decide_eq_true_eq, decide_eq_false_iff_not, Classical.not_not] at c_201
                                            have hY : zmay (τ 24) (τ 23) ne (nI W) a b c9 d (k + 1) := ⟨(ht.mp c_181).1, fun j hj => by rcases Nat.lt_or_ge j k with h | h; exact (ht.mp c_181).2 j h; (have e : j = k := by omega); subst e; exact ⟨fun q => by first | exact c_122 q.1 | exact c_137 q.2.1 | exact c_153 q.2.2.1 | exact c_169 q.2.2.2, by rw [eC]; omega⟩⟩
                                            refine z_iconst (v := nI 1) X (by decide) dX9_entry_204 ?_
                                            refine z_goto (tgt := 209) X dX9_entry_205 (by decide) ?_
                                            refine z_istore X dX9_entry_209 (by decide) ?_
                                            refine z_inc1 X dX9_entry_211 rfl (by decide) ?_
                                            refine z_goto (tgt := 103) X dX9_entry_214 (by decide) ?_
                                            first | exact ih_103 (k + 1) true _ (by omega) ⟨fun _ => hY, fun _ => rfl⟩ (by omega) | exact ih_103 (k + 1) false _ (by omega) ⟨fun q => absurd q (by decide), fun q => absurd q hN⟩ (by omega)
                                    · skip
                                      refine z_iconst (v := nI 1) X (by decide) dX9_entry_172 ?_
                                      refine z_goto (tgt := 177) X dX9_entry_173 (by decide) ?_
                                      refine z_istore X dX9_entry_177 (by decide) ?_
                                      refine z_iload X dX9_entry_179 rfl ?_
                                      refine z_if_eq (tgt := 208) X dX9_entry_181 (by decide) (fun c_181 => ?_) (fun c_181 => ?_)
                                      · skip
                                        try simp (disch := omega) only [zb_notn, zb_not, zb_n0, zb_0, Bool.not_eq_false, Bool.not_eq_true, Bool.not_eq_true', Bool.not_eq_false', decide_eq_true_eq, decide_eq_false_iff_not, Classical.not_not] at c_181
                                        have hN : ¬ zmay (τ 24) (τ 23) ne (nI W) a b c9 d (k + 1) := fun q => by first | exact absurd (ht.mpr ⟨q.1, fun j hj => q.2 j (by omega)⟩) (by rw [c_181]; decide) | exact (q.2 k (by omega)).1 ⟨c_122, c_137, c_153, c_169⟩ | (have q9 := (q.2 k (by omega)).2; rw [eC] at q9; omega)
                                        refine z_iconst (v := nI 0) X (by decide) dX9_entry_208 ?_
                                        refine z_istore X dX9_entry_209 (by decide) ?_
                                        refine z_inc1 X dX9_entry_211 rfl (by decide) ?_
                                        refine z_goto (tgt := 103) X dX9_entry_214 (by decide) ?_
                                        first | exact ih_103 (k + 1) true _ (by omega) ⟨fun _ => hY, fun _ => rfl⟩ (by omega) | exact ih_103 (k + 1) false _ (by omega) ⟨fun q => absurd q (by decide), fun q => absurd q hN⟩ (by omega)
                                      · skip
                                        try simp (disch := omega) only [zb_notn, zb_not, zb_n0, zb_0, Bool.not_eq_false, Bool.not_eq_true, Bool.not_eq_true', Bool.not_eq_false', decide_eq_true_eq, decide_eq_false_iff_not, Classical.not_not] at c_181
                                        refine z_iload X dX9_entry_184 rfl ?_
                                        refine z_if_ne (tgt := 208) X dX9_entry_186 (by decide) (fun c_186 => ?_) (fun c_186 => ?_)
                                        · skip
                                          have hN : ¬ zmay (τ 24) (τ 23) ne (nI W) a b c9 d (k + 1) := fun q => by first | exact absurd (ht.mpr ⟨q.1, fun j hj => q.2 j (by omega)⟩) (by rw [c_181]; decide) | exact (q.2 k (by omega)).1 ⟨c_122, c_137, c_153, c_169⟩ | (have q9 := (q.2 k (by omega)).2; rw [eC] at q9; omega)
                                          refine z_iconst (v := nI 0) X (by decide) dX9_entry_208 ?_
                                          refine z_istore X dX9_entry_209 (by decide) ?_
                                          refine z_inc1 X dX9_entry_211 rfl (by decide) ?_
                                          refine z_goto (tgt := 103) X dX9_entry_214 (by decide) ?_
                                          first | exact ih_103 (k + 1) true _ (by omega) ⟨fun _ => hY, fun _ => rfl⟩ (by omega) | exact ih_103 (k + 1) false _ (by omega) ⟨fun q => absurd q (by decide), fun q => absurd q hN⟩ (by omega)
                                        · first | exact absurd c_186 (by decide) | exact absurd (by decide) c_186
                        refine z_iconst (v := nI 0) X (by decide) dX9_entry_100 ?_
                        refine z_istore X dX9_entry_101 (by decide) ?_
                        exact loop_103 (ne - 0 + 1) 0 _ _ (Nat.zero_le _) ht0 (by omega)
                    · skip
                      refine z_aload_n X dX9_entry_78 rfl ?_
                      refine z_iconst (v := 2) X (by decide) dX9_entry_79 ?_
                      refine z_runV X kX9_154 (tX9_fails _ hS) (zso_21 hS) rfl rfl (Nat.le_of_ble_eq_true rfl) ⟨by decide, by decide⟩ ⟨by decide, by decide⟩ dX9_entry_80 ?_
                      rintro _ g1 s1 ⟨rfl, h8, h9⟩
                      replace h8 := h8.symm
                      subst h8
                      replace h9 := h9.symm
                      subst h9
                      refine z_iret X (by decide) (by decide) rfl dX9_entry_83 ?_
                      exact ⟨rfl, _, rfl, by rw [hτ]; exact zMP_2 (j := 1) (by unfold zx_entry; rw [if_neg (fun q => q ⟨c_6, c_14, c_23, c_32⟩), if_pos (by first | exact Or.inl c_52 | exact Or.inr (Or.inl ⟨c_57, c_63⟩) | exact Or.inr (Or.inr ⟨c_69, c_75⟩))]) rfl⟩
          · first | exact absurd c_43 (by decide) | exact absurd (by decide) c_43
