/-! contracts of the reference: packing whole, words -/
theorem zus_e {σ τ : zIn} {ne K vw nd : Nat} (h1 : ∀ i, i ≠ 21 → i ≠ 39 → i ≠ 40 → τ i = σ i) : zusσ τ ne K vw nd = (zusσ σ ne K vw nd) := by
  unfold zusσ
  rw [h1 24 (by decide) (by decide) (by decide), h1 38 (by decide) (by decide) (by decide), h1 23 (by decide) (by decide) (by decide)]
theorem zcw1_e {σ τ : zIn} {ne K vw nd : Nat} {dd : Nat → Nat} {x : Int32} {q : Nat × Nat} (h1 : ∀ i, i ≠ 21 → i ≠ 39 → i ≠ 40 → τ i = σ i) (h : zcw1 τ ne K vw nd dd x q) : zcw1 σ ne K vw nd dd x q := by
  rcases h with h | ⟨h2, h3, h4⟩
  · exact Or.inl h
  · exact Or.inr ⟨h2, zen_e h1 h3, h4⟩
/-- what packing leaves in the reference -/
def zPf (σ σ' : zIn) (ne K nd pl cd vw : Nat) (lt dd : Nat → Nat) (b : Bool) (paid many : Nat) (L : List (Nat × Nat)) : Prop :=
  (∀ i, i ≠ 21 → i ≠ 39 → i ≠ 40 → σ' i = σ i) ∧ (∀ k, k ≠ 25 → k ≠ 26 → σ' 21 k = σ 21 k) ∧ (paid, many) = (if b && decide (0 < ne) then zch (fun n => (zLT 1000000 nd (fun i => zup (lt (dd i)) cd) (zusσ σ ne K vw nd)) 0 n) cd (zsum (fun i => zup (lt (dd i)) pl) nd) 24 else ((zsum (fun i => zup (lt (dd i)) pl) nd), 0)) ∧ L = zcut nd (zLT 1000000 nd (fun i => zup (lt (dd i)) cd) (zusσ σ ne K vw nd)) (zusσ σ ne K vw nd) 0 many ∧ σ' 21 26 = nI paid ∧ σ' 21 25 = nI L.length ∧ ∀ i, i < L.length → zcw1 σ ne K vw nd dd (σ' 40 i) (L.getD i (0, 0))
set_option maxHeartbeats 4000000 in
set_option maxRecDepth 100000 in
theorem tX9_packs {l : Launch} {D : va_G} {cy : Nat → ClassId} {z0 : Nat} {g : zSh} {σ : zIn} {o K ni nd ne nu mi j0 pl cd vw : Nat} {lt dd dy : Nat → Nat} (b : Bool) (hS : zS g) (hP : zPk σ o K ni nd ne nu mi j0 pl cd vw lt dd dy) : z_Ct l D cy z0 MX9_packs [.ref (g.2.1 21), .int (nI o), .int (zb b)] g σ (fun v g' σ' => v = none ∧ g' = g ∧ ∃ paid many L, zPf σ σ' ne K nd pl cd vw lt dd b paid many L) := by
  have hP9 := hP
  obtain ⟨⟨he, he2, hC, hNC⟩, ⟨ho, hK, hK2⟩, ⟨hnd, hn24, hdd⟩, ⟨hni, hlt⟩, ⟨hnu, hn12, hmi, hmi2, hdy⟩, hj0, hpl, hpl1, hpl2, hcd, hcd1, hcd2, hvw, hvw2⟩ := hP9
  have hj12 := zrr_le hj0
  have hps : (zsum (fun i => zup (lt (dd i)) pl) nd) ≤ 20 * nd := zsum_le (fun i hi => Nat.le_trans (zup_le (by omega) (hlt _ (hdd i hi).2).2.1) (hlt _ (hdd i hi).2).2.2)
  refine z_ofM (by decide) (z_cr (z_ci (z_ci z_c0))) (Nat.le_of_ble_eq_true rfl) ?_
  intro p e s m args below meth c X
  refine z_aload_n X dX9_packs_0 rfl ?_
  refine z_iload_n X dX9_packs_1 rfl ?_
  refine z_runV X kX9_199 (tX9_rulesAt o hS hnu hn12 hmi hmi2 hdy ho) (zso_21 hS) rfl rfl (Nat.le_of_ble_eq_true rfl) ⟨by decide, by decide⟩ ⟨by decide, by decide⟩ dX9_packs_2 ?_
  rintro _ g1 s1 ⟨j, rfl, h8, h9, hj⟩
  replace h8 := h8.symm
  subst h8
  replace h9 := h9.symm
  subst h9
  obtain rfl : j0 = j := zrr_u hj0 hj
  refine z_istore_n X dX9_packs_5 (by decide) ?_
  refine z_aload_n X dX9_packs_6 rfl ?_
  refine z_aload_n X dX9_packs_7 rfl ?_
  refine z_aload_n X dX9_packs_8 rfl ?_
  refine z_getr2 X fX9_50 (zso_21 hS) (zsr_21_18 hS) rfl dX9_packs_9 ?_
  refine z_iload_n X dX9_packs_12 rfl ?_
  refine z_ialdN X (zsa_35 hS) (by omega) (by omega) dX9_packs_13 ?_
  rw [hpl]
  refine z_runV X kX9_225 (tX9_allPlain (o := o) pl hS hP hpl1 hpl2) (zso_21 hS) rfl rfl (Nat.le_of_ble_eq_true rfl) ⟨by decide, by decide⟩ ⟨by decide, by decide⟩ dX9_packs_14 ?_
  rintro _ g1 s1 ⟨rfl, h8, h9⟩
  replace h8 := h8.symm
  subst h8
  replace h9 := h9.symm
  subst h9
  refine z_puti X fX9_228 (zso_21 hS) rfl dX9_packs_17 ?_
  obtain ⟨τ0, hτ0⟩ : ∃ x, x = z_up σ 21 26 (nI (zsum (fun i => zup (lt (dd i)) pl) nd)) := ⟨_, rfl⟩
  have hP0 : zPk τ0 o K ni nd ne nu mi j0 pl cd vw lt dd dy := zPk_e hP (by rw [hτ0]; exact (fun i h1 _ _ => z_up_ne h1)) (fun k h1 h2 _ => by rw [hτ0, z_up_app, if_pos rfl, if_neg h2])
  refine z_iconst (v := nI 0) X (by decide) dX9_packs_20 ?_
  refine z_istore X dX9_packs_21 (by decide) ?_
  refine z_iload_n X dX9_packs_23 rfl ?_
  refine z_if_eq (tgt := 135) X dX9_packs_24 (by decide) (fun c_24 => ?_) (fun c_24 => ?_)
  · skip
    try simp (disch := omega) only [zb_notn, zb_not, zb_n0, zb_0, Bool.not_eq_false, Bool.not_eq_true, Bool.not_eq_true', Bool.not_eq_false', decide_eq_true_eq, decide_eq_false_iff_not, Classical.not_not] at c_24
    refine z_aload_n X dX9_packs_135 rfl ?_
    refine z_iload_n X dX9_packs_136 rfl ?_
    refine z_iload X dX9_packs_137 rfl ?_
    refine z_runV X kX9_235 (tX9_cuts (o := o) (zLT 1000000 nd (fun i => zup (lt (dd i)) cd) (zusσ σ ne K vw nd)) 0 hS (hτ0 ▸ hP0) (by omega) (fun h => absurd h (Nat.lt_irrefl _))) (zso_21 hS) rfl rfl (Nat.le_of_ble_eq_true rfl) ⟨by decide, by decide⟩ ⟨by decide, by decide⟩ dX9_packs_139 ?_
    rintro _ g1 s8 ⟨rfl, h8, k1, k2, k3, k4⟩
    replace h8 := h8.symm
    subst h8
    rw [zus_e (fun i h1 _ _ => z_up_ne h1)] at k3 k4
    refine z_vret X (by decide) (by decide) rfl dX9_packs_142 ?_
    exact ⟨rfl, rfl, (zsum (fun i => zup (lt (dd i)) pl) nd), 0, zcut nd (zLT 1000000 nd (fun i => zup (lt (dd i)) cd) (zusσ σ ne K vw nd)) (zusσ σ ne K vw nd) 0 0, fun i h1 h2 h3 => by rw [k1 i h1 h3, z_up_ne h1], fun k h1 h2 => by rw [k2 k h1, z_up_app, if_pos rfl, if_neg h2], by first | rw [c_24, Bool.false_and, if_neg (by decide)] | rw [decide_eq_false (show ¬ 0 < ne by omega), Bool.and_false, if_neg (by decide)], rfl, by rw [k2 26 (by decide), z_up_app, if_pos rfl, if_pos rfl], k3, fun i hi => zcw1_e (fun i h1 _ _ => z_up_ne h1) (k4 i hi)⟩
  · skip
    try simp (disch := omega) only [zb_notn, zb_not, zb_n0, zb_0, Bool.not_eq_false, Bool.not_eq_true, Bool.not_eq_true', Bool.not_eq_false', decide_eq_true_eq, decide_eq_false_iff_not, Classical.not_not] at c_24
    refine z_aload_n X dX9_packs_27 rfl ?_
    refine z_geti X fX9_168 (zso_21 hS) rfl dX9_packs_28 ?_
    rw [z_up_app, if_pos rfl, if_neg (by decide), he]
    refine z_if_le (tgt := 135) X dX9_packs_31 (by decide) (fun c_31 => ?_) (fun c_31 => ?_)
    · skip
      try simp (disch := omega) only [zk0, nI_leI, nI_ltI, nI_eq, zbk_notn, zbk_not, zbk_n0, zbk_0, zb_0, zb_n0, zb_not, zb_notn, Bool.not_eq_false, Bool.not_eq_true, Bool.not_eq_true', Bool.not_eq_false', decide_eq_true_eq, decide_eq_false_iff_not, Classical.not_not] at c_31
      refine z_aload_n X dX9_packs_135 rfl ?_
      refine z_iload_n X dX9_packs_136 rfl ?_
      refine z_iload X dX9_packs_137 rfl ?_
      refine z_runV X kX9_235 (tX9_cuts (o := o) (zLT 1000000 nd (fun i => zup (lt (dd i)) cd) (zusσ σ ne K vw nd)) 0 hS (hτ0 ▸ hP0) (by omega) (fun h => absurd h (Nat.lt_irrefl _))) (zso_21 hS) rfl rfl (Nat.le_of_ble_eq_true rfl) ⟨by decide, by decide⟩ ⟨by decide, by decide⟩ dX9_packs_139 ?_
      rintro _ g1 s8 ⟨rfl, h8, k1, k2, k3, k4⟩
      replace h8 := h8.symm
      subst h8
      rw [zus_e (fun i h1 _ _ => z_up_ne h1)] at k3 k4
      refine z_vret X (by decide) (by decide) rfl dX9_packs_142 ?_
      exact ⟨rfl, rfl, (zsum (fun i => zup (lt (dd i)) pl) nd), 0, zcut nd (zLT 1000000 nd (fun i => zup (lt (dd i)) cd) (zusσ σ ne K vw nd)) (zusσ σ ne K vw nd) 0 0, fun i h1 h2 h3 => by rw [k1 i h1 h3, z_up_ne h1], fun k h1 h2 => by rw [k2 k h1, z_up_app, if_pos rfl, if_neg h2], by first | rw [c_24, Bool.false_and, if_neg (by decide)] | rw [decide_eq_false (show ¬ 0 < ne by omega), Bool.and_false, if_neg (by decide)], rfl, by rw [k2 26 (by decide), z_up_app, if_pos rfl, if_pos rfl], k3, fun i hi => zcw1_e (fun i h1 _ _ => z_up_ne h1) (k4 i hi)⟩
    · skip
      try simp (disch := omega) only [zk0, nI_leI, nI_ltI, nI_eq, zbk_notn, zbk_not, zbk_n0, zbk_0, zb_0, zb_n0, zb_not, zb_notn, Bool.not_eq_false, Bool.not_eq_true, Bool.not_eq_true', Bool.not_eq_false', decide_eq_true_eq, decide_eq_false_iff_not, Classical.not_not] at c_31
      refine z_aload_n X dX9_packs_34 rfl ?_
      refine z_iload_n X dX9_packs_35 rfl ?_
      refine z_runV X kX9_231 (tX9_reckons (o := o) hS (hτ0 ▸ hP0)) (zso_21 hS) rfl rfl (Nat.le_of_ble_eq_true rfl) ⟨by decide, by decide⟩ ⟨by decide, by decide⟩ dX9_packs_36 ?_
      rintro _ g1 s7 ⟨rfl, h8, h7, hT7⟩
      replace h8 := h8.symm
      subst h8
      rw [zus_e (fun i h1 _ _ => z_up_ne h1)] at hT7
      have loop_42 : ∀ (n : Nat) (q9 : Nat) (v6 : Option Value) (τ : zIn) (hq : q9 ≤ 24) (hF : ∀ i, i ≠ 21 → i ≠ 39 → i ≠ 40 → τ i = σ i) (hF21 : ∀ k, k ≠ 26 → τ 21 k = σ 21 k) (hT : ∀ p n, p ≤ nd → n ≤ 24 → τ 39 (25 * p + n) = nI ((zLT 1000000 nd (fun i => zup (lt (dd i)) cd) (zusσ σ ne K vw nd)) p n)) (hpd : τ 21 26 = nI (zch (fun n => (zLT 1000000 nd (fun i => zup (lt (dd i)) cd) (zusσ σ ne K vw nd)) 0 n) cd (zsum (fun i => zup (lt (dd i)) pl) nd) q9).1) (hn : 24 - q9 < n), z_V p l e (zRm MX9_packs) s m args below meth c 7 D cy z0 0 0 (zQm MX9_packs below D cy z0 (fun v g' σ' => v = none ∧ g' = g ∧ ∃ paid many L, zPf σ σ' ne K nd pl cd vw lt dd b paid many L) args s) 42 [some (.ref (g.2.1 21)), some (.int (nI o)), some (.int (zb b)), some (.int (nI j0)), some (.int (nI (zch (fun n => (zLT 1000000 nd (fun i => zup (lt (dd i)) cd) (zusσ σ ne K vw nd)) 0 n) cd (zsum (fun i => zup (lt (dd i)) pl) nd) q9).2)), some (.int (nI (q9 + 1))), v6] [] g τ := by
        intro n
        induction n with
        | zero => intro q9 v6 τ hq hF hF21 hT hpd hn; exact absurd hn (Nat.not_lt_zero _)
        | succ n ih_42 =>
          intro q9 v6 τ hq hF hF21 hT hpd hn
          have hTb : ∀ p n, (zLT 1000000 nd (fun i => zup (lt (dd i)) cd) (zusσ σ ne K vw nd)) p n ≤ 1000000 := fun p n => zLT_le
          have hcl := zch_le (T0 := fun n => (zLT 1000000 nd (fun i => zup (lt (dd i)) cd) (zusσ σ ne K vw nd)) 0 n) (cd := cd) (pc := (zsum (fun i => zup (lt (dd i)) pl) nd)) q9
          have hPτ : zPk τ o K ni nd ne nu mi j0 pl cd vw lt dd dy := zPk_e hP hF (fun k _ h _ => hF21 k h)
          have hcdτ : τ 36 j0 = nI cd := by rw [hF 36 (by decide) (by decide) (by decide)]; exact hcd
          have hT0 : ∀ n, n ≤ 24 → τ 39 n = nI ((zLT 1000000 nd (fun i => zup (lt (dd i)) cd) (zusσ σ ne K vw nd)) 0 n) := fun n hn => by have := hT 0 n (Nat.zero_le _) hn; rw [Nat.mul_zero, Nat.zero_add] at this; exact this
          refine z_iload X dX9_packs_42 rfl ?_
          refine z_bipush (v := nI 25) X (by decide) dX9_packs_44 ?_
          refine z_icmp_ge (tgt := 135) X dX9_packs_46 (by decide) (fun c_46 => ?_) (fun c_46 => ?_)
          · skip
            try simp (disch := omega) only [zk0, nI_leI, nI_ltI, nI_eq, zbk_notn, zbk_not, zbk_n0, zbk_0, zb_0, zb_n0, zb_not, zb_notn, Bool.not_eq_false, Bool.not_eq_true, Bool.not_eq_true', Bool.not_eq_false', decide_eq_true_eq, decide_eq_false_iff_not, Classical.not_not] at c_46
            refine z_aload_n X dX9_packs_135 rfl ?_
            refine z_iload_n X dX9_packs_136 rfl ?_
            refine z_iload X dX9_packs_137 rfl ?_
            refine z_runV X kX9_235 (tX9_cuts (o := o) (zLT 1000000 nd (fun i => zup (lt (dd i)) cd) (zusσ σ ne K vw nd)) (zch (fun n => (zLT 1000000 nd (fun i => zup (lt (dd i)) cd) (zusσ σ ne K vw nd)) 0 n) cd (zsum (fun i => zup (lt (dd i)) pl) nd) q9).2 hS hPτ (by omega) (fun _ => ⟨hT, hTb⟩)) (zso_21 hS) rfl rfl (Nat.le_of_ble_eq_true rfl) ⟨by decide, by decide⟩ ⟨by decide, by decide⟩ dX9_packs_139 ?_
            rintro _ g1 s8 ⟨rfl, h8, k1, k2, k3, k4⟩
            replace h8 := h8.symm
            subst h8
            rw [zus_e hF] at k3 k4
            refine z_vret X (by decide) (by decide) rfl dX9_packs_142 ?_
            have e : 24 = q9 := by omega
            subst e
            obtain ⟨Z, hZ⟩ : ∃ Z, Z = zch (fun n => (zLT 1000000 nd (fun i => zup (lt (dd i)) cd) (zusσ σ ne K vw nd)) 0 n) cd (zsum (fun i => zup (lt (dd i)) pl) nd) 24 := ⟨_, rfl⟩
            rw [← hZ] at k3 k4 hpd
            exact ⟨rfl, rfl, Z.1, Z.2, zcut nd (zLT 1000000 nd (fun i => zup (lt (dd i)) cd) (zusσ σ ne K vw nd)) (zusσ σ ne K vw nd) 0 Z.2, fun i h1 h2 h3 => by rw [k1 i h1 h3]; exact hF i h1 h2 h3, fun k h1 h2 => by rw [k2 k h1]; exact hF21 k h2, by rw [c_24, decide_eq_true (show 0 < ne by omega), Bool.and_self, if_pos rfl, ← hZ], rfl, by rw [k2 26 (by decide)]; exact hpd, k3, fun i hi => zcw1_e hF (k4 i hi)⟩
          · skip
            try simp (disch := omega) only [zk0, nI_leI, nI_ltI, nI_eq, zbk_notn, zbk_not, zbk_n0, zbk_0, zb_0, zb_n0, zb_not, zb_notn, Bool.not_eq_false, Bool.not_eq_true, Bool.not_eq_true', Bool.not_eq_false', decide_eq_true_eq, decide_eq_false_iff_not, Classical.not_not] at c_46
            refine z_aload_n X dX9_packs_49 rfl ?_
            refine z_getr2 X fX9_62 (zso_21 hS) (zsr_21_23 hS) rfl dX9_packs_50 ?_
            refine z_iload X dX9_packs_53 rfl ?_
            refine z_ialdN X (zsa_39 hS) (by omega) (by omega) dX9_packs_55 ?_
            rw [hT0 (q9 + 1) (by omega)]
            have hb1 := hTb 0 (q9 + 1)
            refine z_ldc X qX9_217 dX9_packs_56 ?_
            rw [zkM]
            refine z_icmp_lt (tgt := 66) X dX9_packs_58 (by decide) (fun c_58 => ?_) (fun c_58 => ?_)
            · skip
              try simp (disch := omega) only [zk0, nI_leI, nI_ltI, nI_eq, zbk_notn, zbk_not, zbk_n0, zbk_0, zb_0, zb_n0, zb_not, zb_notn, Bool.not_eq_false, Bool.not_eq_true, Bool.not_eq_true', Bool.not_eq_false', decide_eq_true_eq, decide_eq_false_iff_not, Classical.not_not] at c_58
              refine z_aload_n X dX9_packs_66 rfl ?_
              refine z_getr2 X fX9_62 (zso_21 hS) (zsr_21_23 hS) rfl dX9_packs_67 ?_
              refine z_iload X dX9_packs_70 rfl ?_
              refine z_ialdN X (zsa_39 hS) (by omega) (by omega) dX9_packs_72 ?_
              rw [hT0 (q9 + 1) (by omega)]
              refine z_iconst (v := nI 5) X (by decide) dX9_packs_73 ?_
              refine z_iload X dX9_packs_74 rfl ?_
              refine z_imulN X dX9_packs_76 ?_
              refine z_aload_n X dX9_packs_77 rfl ?_
              refine z_getr2 X fX9_53 (zso_21 hS) (zsr_21_19 hS) rfl dX9_packs_78 ?_
              refine z_iload_n X dX9_packs_81 rfl ?_
              refine z_ialdN X (zsa_36 hS) (by omega) (by omega) dX9_packs_82 ?_
              rw [hcdτ]
              have hup := zup_le (a := 5 * (q9 + 1)) (b := cd) (by omega) (by omega)
              refine z_runS X kX9_211 (tX9_up _ _ (by omega) (by omega) (by omega)) rfl rfl (Nat.le_of_ble_eq_true rfl) ⟨by decide, by decide⟩ ⟨by decide, by decide⟩ dX9_packs_83 ?_
              rintro _ g1 s1 ⟨rfl, h8, h9⟩
              replace h8 := h8.symm
              subst h8
              replace h9 := h9.symm
              subst h9
              rw [show (5 * (q9 + 1) + cd - 1) / cd = zup (5 * (q9 + 1)) cd from rfl]
              refine z_iaddN X dX9_packs_86 ?_
              try rw [zkM]
              refine z_istore X dX9_packs_87 (by decide) ?_
              refine z_iload X dX9_packs_89 rfl ?_
              refine z_aload_n X dX9_packs_91 rfl ?_
              refine z_geti X fX9_228 (zso_21 hS) rfl dX9_packs_92 ?_
              rw [hpd]
              refine z_icmp_ge (tgt := 103) X dX9_packs_95 (by decide) (fun c_95 => ?_) (fun c_95 => ?_)
              · skip
                try simp (disch := omega) only [zk0, nI_leI, nI_ltI, nI_eq, zbk_notn, zbk_not, zbk_n0, zbk_0, zb_0, zb_n0, zb_not, zb_notn, Bool.not_eq_false, Bool.not_eq_true, Bool.not_eq_true', Bool.not_eq_false', decide_eq_true_eq, decide_eq_false_iff_not, Classical.not_not] at c_95
                refine z_iload X dX9_packs_103 rfl ?_
                refine z_istore X dX9_packs_105 (by decide) ?_
                refine z_aload_n X dX9_packs_107 rfl ?_
                refine z_iload X dX9_packs_108 rfl ?_
                refine z_aload_n X dX9_packs_110 rfl ?_
                refine z_geti X fX9_228 (zso_21 hS) rfl dX9_packs_111 ?_
                rw [hpd]
                refine z_icmp_ge (tgt := 122) X dX9_packs_114 (by decide) (fun c_114 => ?_) (fun c_114 => ?_)
                · skip
                  try simp (disch := omega) only [zk0, nI_leI, nI_ltI, nI_eq, zbk_notn, zbk_not, zbk_n0, zbk_0, zb_0, zb_n0, zb_not, zb_notn, Bool.not_eq_false, Bool.not_eq_true, Bool.not_eq_true', Bool.not_eq_false', decide_eq_true_eq, decide_eq_false_iff_not, Classical.not_not] at c_114
                  refine z_aload_n X dX9_packs_122 rfl ?_
                  refine z_geti X fX9_228 (zso_21 hS) rfl dX9_packs_123 ?_
                  try rw [hpd]
                  refine z_puti X fX9_228 (zso_21 hS) rfl dX9_packs_126 ?_
                  refine z_inc1 X dX9_packs_129 rfl (by decide) ?_
                  refine z_goto (tgt := 42) X dX9_packs_132 (by decide) ?_
                  have hst : zch (fun n => (zLT 1000000 nd (fun i => zup (lt (dd i)) cd) (zusσ σ ne K vw nd)) 0 n) cd (zsum (fun i => zup (lt (dd i)) pl) nd) (q9 + 1) = if (zLT 1000000 nd (fun i => zup (lt (dd i)) cd) (zusσ σ ne K vw nd)) 0 (q9 + 1) + zup (5 * (q9 + 1)) cd < (zch (fun n => (zLT 1000000 nd (fun i => zup (lt (dd i)) cd) (zusσ σ ne K vw nd)) 0 n) cd (zsum (fun i => zup (lt (dd i)) pl) nd) q9).1 then ((zLT 1000000 nd (fun i => zup (lt (dd i)) cd) (zusσ σ ne K vw nd)) 0 (q9 + 1) + zup (5 * (q9 + 1)) cd, q9 + 1) else (zch (fun n => (zLT 1000000 nd (fun i => zup (lt (dd i)) cd) (zusσ σ ne K vw nd)) 0 n) cd (zsum (fun i => zup (lt (dd i)) pl) nd) q9) := rfl
                  first
                  | (exfalso; omega)
                  | (rw [if_pos (by omega)] at hst
                     have e9 := fun v τ h1 h2 h3 h4 => ih_42 (q9 + 1) v τ (by omega) h1 h2 h3 h4 (by omega)
                     rw [hst] at e9
                     exact e9 _ _ (fun i h1 h2 h3 => by rw [z_up_ne h1]; exact hF i h1 h2 h3) (fun k hk => by rw [z_up_app, if_pos rfl, if_neg hk]; exact hF21 k hk) (fun p n h1 h2 => by rw [z_up_ne (by decide)]; exact hT p n h1 h2) (by rw [z_up_app, if_pos rfl, if_pos rfl]))
                  | (rw [if_neg (by omega)] at hst
                     have e9 := fun v τ h1 h2 h3 h4 => ih_42 (q9 + 1) v τ (by omega) h1 h2 h3 h4 (by omega)
                     rw [hst] at e9
                     exact e9 _ _ (fun i h1 h2 h3 => by rw [z_up_ne h1]; exact hF i h1 h2 h3) (fun k hk => by rw [z_up_app, if_pos rfl, if_neg hk]; exact hF21 k hk) (fun p n h1 h2 => by rw [z_up_ne (by decide)]; exact hT p n h1 h2) (by rw [z_up_app, if_pos rfl, if_pos rfl]))
                · skip
                  try simp (disch := omega) only [zk0, nI_leI, nI_ltI, nI_eq, zbk_notn, zbk_not, zbk_n0, zbk_0, zb_0, zb_n0, zb_not, zb_notn, Bool.not_eq_false, Bool.not_eq_true, Bool.not_eq_true', Bool.not_eq_false', decide_eq_true_eq, decide_eq_false_iff_not, Classical.not_not] at c_114
                  refine z_iload X dX9_packs_117 rfl ?_
                  refine z_goto (tgt := 126) X dX9_packs_119 (by decide) ?_
                  try rw [hpd]
                  refine z_puti X fX9_228 (zso_21 hS) rfl dX9_packs_126 ?_
                  refine z_inc1 X dX9_packs_129 rfl (by decide) ?_
                  refine z_goto (tgt := 42) X dX9_packs_132 (by decide) ?_
                  have hst : zch (fun n => (zLT 1000000 nd (fun i => zup (lt (dd i)) cd) (zusσ σ ne K vw nd)) 0 n) cd (zsum (fun i => zup (lt (dd i)) pl) nd) (q9 + 1) = if (zLT 1000000 nd (fun i => zup (lt (dd i)) cd) (zusσ σ ne K vw nd)) 0 (q9 + 1) + zup (5 * (q9 + 1)) cd < (zch (fun n => (zLT 1000000 nd (fun i => zup (lt (dd i)) cd) (zusσ σ ne K vw nd)) 0 n) cd (zsum (fun i => zup (lt (dd i)) pl) nd) q9).1 then ((zLT 1000000 nd (fun i => zup (lt (dd i)) cd) (zusσ σ ne K vw nd)) 0 (q9 + 1) + zup (5 * (q9 + 1)) cd, q9 + 1) else (zch (fun n => (zLT 1000000 nd (fun i => zup (lt (dd i)) cd) (zusσ σ ne K vw nd)) 0 n) cd (zsum (fun i => zup (lt (dd i)) pl) nd) q9) := rfl
                  first
                  | (exfalso; omega)
                  | (rw [if_pos (by omega)] at hst
                     have e9 := fun v τ h1 h2 h3 h4 => ih_42 (q9 + 1) v τ (by omega) h1 h2 h3 h4 (by omega)
                     rw [hst] at e9
                     exact e9 _ _ (fun i h1 h2 h3 => by rw [z_up_ne h1]; exact hF i h1 h2 h3) (fun k hk => by rw [z_up_app, if_pos rfl, if_neg hk]; exact hF21 k hk) (fun p n h1 h2 => by rw [z_up_ne (by decide)]; exact hT p n h1 h2) (by rw [z_up_app, if_pos rfl, if_pos rfl]))
                  | (rw [if_neg (by omega)] at hst
                     have e9 := fun v τ h1 h2 h3 h4 => ih_42 (q9 + 1) v τ (by omega) h1 h2 h3 h4 (by omega)
                     rw [hst] at e9
                     exact e9 _ _ (fun i h1 h2 h3 => by rw [z_up_ne h1]; exact hF i h1 h2 h3) (fun k hk => by rw [z_up_app, if_pos rfl, if_neg hk]; exact hF21 k hk) (fun p n h1 h2 => by rw [z_up_ne (by decide)]; exact hT p n h1 h2) (by rw [z_up_app, if_pos rfl, if_pos rfl]))
              · skip
                try simp (disch := omega) only [zk0, nI_leI, nI_ltI, nI_eq, zbk_notn, zbk_not, zbk_n0, zbk_0, zb_0, zb_n0, zb_not, zb_notn, Bool.not_eq_false, Bool.not_eq_true, Bool.not_eq_true', Bool.not_eq_false', decide_eq_true_eq, decide_eq_false_iff_not, Classical.not_not] at c_95
                refine z_iload X dX9_packs_98 rfl ?_
                refine z_goto (tgt := 105) X dX9_packs_100 (by decide) ?_
                refine z_istore X dX9_packs_105 (by decide) ?_
                refine z_aload_n X dX9_packs_107 rfl ?_
                refine z_iload X dX9_packs_108 rfl ?_
                refine z_aload_n X dX9_packs_110 rfl ?_
                refine z_geti X fX9_228 (zso_21 hS) rfl dX9_packs_111 ?_
                rw [hpd]
                refine z_icmp_ge (tgt := 122) X dX9_packs_114 (by decide) (fun c_114 => ?_) (fun c_114 => ?_)
                · skip
                  try simp (disch := omega) only [zk0, nI_leI, nI_ltI, nI_eq, zbk_notn, zbk_not, zbk_n0, zbk_0, zb_0, zb_n0, zb_not, zb_notn, Bool.not_eq_false, Bool.not_eq_true, Bool.not_eq_true', Bool.not_eq_false', decide_eq_true_eq, decide_eq_false_iff_not, Classical.not_not] at c_114
                  refine z_aload_n X dX9_packs_122 rfl ?_
                  refine z_geti X fX9_228 (zso_21 hS) rfl dX9_packs_123 ?_
                  try rw [hpd]
                  refine z_puti X fX9_228 (zso_21 hS) rfl dX9_packs_126 ?_
                  refine z_inc1 X dX9_packs_129 rfl (by decide) ?_
                  refine z_goto (tgt := 42) X dX9_packs_132 (by decide) ?_
                  have hst : zch (fun n => (zLT 1000000 nd (fun i => zup (lt (dd i)) cd) (zusσ σ ne K vw nd)) 0 n) cd (zsum (fun i => zup (lt (dd i)) pl) nd) (q9 + 1) = if (zLT 1000000 nd (fun i => zup (lt (dd i)) cd) (zusσ σ ne K vw nd)) 0 (q9 + 1) + zup (5 * (q9 + 1)) cd < (zch (fun n => (zLT 1000000 nd (fun i => zup (lt (dd i)) cd) (zusσ σ ne K vw nd)) 0 n) cd (zsum (fun i => zup (lt (dd i)) pl) nd) q9).1 then ((zLT 1000000 nd (fun i => zup (lt (dd i)) cd) (zusσ σ ne K vw nd)) 0 (q9 + 1) + zup (5 * (q9 + 1)) cd, q9 + 1) else (zch (fun n => (zLT 1000000 nd (fun i => zup (lt (dd i)) cd) (zusσ σ ne K vw nd)) 0 n) cd (zsum (fun i => zup (lt (dd i)) pl) nd) q9) := rfl
                  first
                  | (exfalso; omega)
                  | (rw [if_pos (by omega)] at hst
                     have e9 := fun v τ h1 h2 h3 h4 => ih_42 (q9 + 1) v τ (by omega) h1 h2 h3 h4 (by omega)
                     rw [hst] at e9
                     exact e9 _ _ (fun i h1 h2 h3 => by rw [z_up_ne h1]; exact hF i h1 h2 h3) (fun k hk => by rw [z_up_app, if_pos rfl, if_neg hk]; exact hF21 k hk) (fun p n h1 h2 => by rw [z_up_ne (by decide)]; exact hT p n h1 h2) (by rw [z_up_app, if_pos rfl, if_pos rfl]))
                  | (rw [if_neg (by omega)] at hst
                     have e9 := fun v τ h1 h2 h3 h4 => ih_42 (q9 + 1) v τ (by omega) h1 h2 h3 h4 (by omega)
                     rw [hst] at e9
                     exact e9 _ _ (fun i h1 h2 h3 => by rw [z_up_ne h1]; exact hF i h1 h2 h3) (fun k hk => by rw [z_up_app, if_pos rfl, if_neg hk]; exact hF21 k hk) (fun p n h1 h2 => by rw [z_up_ne (by decide)]; exact hT p n h1 h2) (by rw [z_up_app, if_pos rfl, if_pos rfl]))
                · skip
                  try simp (disch := omega) only [zk0, nI_leI, nI_ltI, nI_eq, zbk_notn, zbk_not, zbk_n0, zbk_0, zb_0, zb_n0, zb_not, zb_notn, Bool.not_eq_false, Bool.not_eq_true, Bool.not_eq_true', Bool.not_eq_false', decide_eq_true_eq, decide_eq_false_iff_not, Classical.not_not] at c_114
                  refine z_iload X dX9_packs_117 rfl ?_
                  refine z_goto (tgt := 126) X dX9_packs_119 (by decide) ?_
                  try rw [hpd]
                  refine z_puti X fX9_228 (zso_21 hS) rfl dX9_packs_126 ?_
                  refine z_inc1 X dX9_packs_129 rfl (by decide) ?_
                  refine z_goto (tgt := 42) X dX9_packs_132 (by decide) ?_
                  have hst : zch (fun n => (zLT 1000000 nd (fun i => zup (lt (dd i)) cd) (zusσ σ ne K vw nd)) 0 n) cd (zsum (fun i => zup (lt (dd i)) pl) nd) (q9 + 1) = if (zLT 1000000 nd (fun i => zup (lt (dd i)) cd) (zusσ σ ne K vw nd)) 0 (q9 + 1) + zup (5 * (q9 + 1)) cd < (zch (fun n => (zLT 1000000 nd (fun i => zup (lt (dd i)) cd) (zusσ σ ne K vw nd)) 0 n) cd (zsum (fun i => zup (lt (dd i)) pl) nd) q9).1 then ((zLT 1000000 nd (fun i => zup (lt (dd i)) cd) (zusσ σ ne K vw nd)) 0 (q9 + 1) + zup (5 * (q9 + 1)) cd, q9 + 1) else (zch (fun n => (zLT 1000000 nd (fun i => zup (lt (dd i)) cd) (zusσ σ ne K vw nd)) 0 n) cd (zsum (fun i => zup (lt (dd i)) pl) nd) q9) := rfl
                  first
                  | (exfalso; omega)
                  | (rw [if_pos (by omega)] at hst
                     have e9 := fun v τ h1 h2 h3 h4 => ih_42 (q9 + 1) v τ (by omega) h1 h2 h3 h4 (by omega)
                     rw [hst] at e9
                     exact e9 _ _ (fun i h1 h2 h3 => by rw [z_up_ne h1]; exact hF i h1 h2 h3) (fun k hk => by rw [z_up_app, if_pos rfl, if_neg hk]; exact hF21 k hk) (fun p n h1 h2 => by rw [z_up_ne (by decide)]; exact hT p n h1 h2) (by rw [z_up_app, if_pos rfl, if_pos rfl]))
                  | (rw [if_neg (by omega)] at hst
                     have e9 := fun v τ h1 h2 h3 h4 => ih_42 (q9 + 1) v τ (by omega) h1 h2 h3 h4 (by omega)
                     rw [hst] at e9
                     exact e9 _ _ (fun i h1 h2 h3 => by rw [z_up_ne h1]; exact hF i h1 h2 h3) (fun k hk => by rw [z_up_app, if_pos rfl, if_neg hk]; exact hF21 k hk) (fun p n h1 h2 => by rw [z_up_ne (by decide)]; exact hT p n h1 h2) (by rw [z_up_app, if_pos rfl, if_pos rfl]))
            · skip
              try simp (disch := omega) only [zk0, nI_leI, nI_ltI, nI_eq, zbk_notn, zbk_not, zbk_n0, zbk_0, zb_0, zb_n0, zb_not, zb_notn, Bool.not_eq_false, Bool.not_eq_true, Bool.not_eq_true', Bool.not_eq_false', decide_eq_true_eq, decide_eq_false_iff_not, Classical.not_not] at c_58
              refine z_ldc X qX9_217 dX9_packs_61 ?_
              refine z_goto (tgt := 87) X dX9_packs_63 (by decide) ?_
              try rw [zkM]
              refine z_istore X dX9_packs_87 (by decide) ?_
              refine z_iload X dX9_packs_89 rfl ?_
              refine z_aload_n X dX9_packs_91 rfl ?_
              refine z_geti X fX9_228 (zso_21 hS) rfl dX9_packs_92 ?_
              rw [hpd]
              refine z_icmp_ge (tgt := 103) X dX9_packs_95 (by decide) (fun c_95 => ?_) (fun c_95 => ?_)
              · skip
                try simp (disch := omega) only [zk0, nI_leI, nI_ltI, nI_eq, zbk_notn, zbk_not, zbk_n0, zbk_0, zb_0, zb_n0, zb_not, zb_notn, Bool.not_eq_false, Bool.not_eq_true, Bool.not_eq_true', Bool.not_eq_false', decide_eq_true_eq, decide_eq_false_iff_not, Classical.not_not] at c_95
                refine z_iload X dX9_packs_103 rfl ?_
                refine z_istore X dX9_packs_105 (by decide) ?_
                refine z_aload_n X dX9_packs_107 rfl ?_
                refine z_iload X dX9_packs_108 rfl ?_
                refine z_aload_n X dX9_packs_110 rfl ?_
                refine z_geti X fX9_228 (zso_21 hS) rfl dX9_packs_111 ?_
                rw [hpd]
                refine z_icmp_ge (tgt := 122) X dX9_packs_114 (by decide) (fun c_114 => ?_) (fun c_114 => ?_)
                · skip
                  try simp (disch := omega) only [zk0, nI_leI, nI_ltI, nI_eq, zbk_notn, zbk_not, zbk_n0, zbk_0, zb_0, zb_n0, zb_not, zb_notn, Bool.not_eq_false, Bool.not_eq_true, Bool.not_eq_true', Bool.not_eq_false', decide_eq_true_eq, decide_eq_false_iff_not, Classical.not_not] at c_114
                  refine z_aload_n X dX9_packs_122 rfl ?_
                  refine z_geti X fX9_228 (zso_21 hS) rfl dX9_packs_123 ?_
                  try rw [hpd]
                  refine z_puti X fX9_228 (zso_21 hS) rfl dX9_packs_126 ?_
                  refine z_inc1 X dX9_packs_129 rfl (by decide) ?_
                  refine z_goto (tgt := 42) X dX9_packs_132 (by decide) ?_
                  have hst : zch (fun n => (zLT 1000000 nd (fun i => zup (lt (dd i)) cd) (zusσ σ ne K vw nd)) 0 n) cd (zsum (fun i => zup (lt (dd i)) pl) nd) (q9 + 1) = if (zLT 1000000 nd (fun i => zup (lt (dd i)) cd) (zusσ σ ne K vw nd)) 0 (q9 + 1) + zup (5 * (q9 + 1)) cd < (zch (fun n => (zLT 1000000 nd (fun i => zup (lt (dd i)) cd) (zusσ σ ne K vw nd)) 0 n) cd (zsum (fun i => zup (lt (dd i)) pl) nd) q9).1 then ((zLT 1000000 nd (fun i => zup (lt (dd i)) cd) (zusσ σ ne K vw nd)) 0 (q9 + 1) + zup (5 * (q9 + 1)) cd, q9 + 1) else (zch (fun n => (zLT 1000000 nd (fun i => zup (lt (dd i)) cd) (zusσ σ ne K vw nd)) 0 n) cd (zsum (fun i => zup (lt (dd i)) pl) nd) q9) := rfl
                  first
                  | (exfalso; omega)
                  | (rw [if_pos (by omega)] at hst
                     have e9 := fun v τ h1 h2 h3 h4 => ih_42 (q9 + 1) v τ (by omega) h1 h2 h3 h4 (by omega)
                     rw [hst] at e9
                     exact e9 _ _ (fun i h1 h2 h3 => by rw [z_up_ne h1]; exact hF i h1 h2 h3) (fun k hk => by rw [z_up_app, if_pos rfl, if_neg hk]; exact hF21 k hk) (fun p n h1 h2 => by rw [z_up_ne (by decide)]; exact hT p n h1 h2) (by rw [z_up_app, if_pos rfl, if_pos rfl]))
                  | (rw [if_neg (by omega)] at hst
                     have e9 := fun v τ h1 h2 h3 h4 => ih_42 (q9 + 1) v τ (by omega) h1 h2 h3 h4 (by omega)
                     rw [hst] at e9
                     exact e9 _ _ (fun i h1 h2 h3 => by rw [z_up_ne h1]; exact hF i h1 h2 h3) (fun k hk => by rw [z_up_app, if_pos rfl, if_neg hk]; exact hF21 k hk) (fun p n h1 h2 => by rw [z_up_ne (by decide)]; exact hT p n h1 h2) (by rw [z_up_app, if_pos rfl, if_pos rfl]))
                · skip
                  try simp (disch := omega) only [zk0, nI_leI, nI_ltI, nI_eq, zbk_notn, zbk_not, zbk_n0, zbk_0, zb_0, zb_n0, zb_not, zb_notn, Bool.not_eq_false, Bool.not_eq_true, Bool.not_eq_true', Bool.not_eq_false', decide_eq_true_eq, decide_eq_false_iff_not, Classical.not_not] at c_114
                  refine z_iload X dX9_packs_117 rfl ?_
                  refine z_goto (tgt := 126) X dX9_packs_119 (by decide) ?_
                  try rw [hpd]
                  refine z_puti X fX9_228 (zso_21 hS) rfl dX9_packs_126 ?_
                  refine z_inc1 X dX9_packs_129 rfl (by decide) ?_
                  refine z_goto (tgt := 42) X dX9_packs_132 (by decide) ?_
                  have hst : zch (fun n => (zLT 1000000 nd (fun i => zup (lt (dd i)) cd) (zusσ σ ne K vw nd)) 0 n) cd (zsum (fun i => zup (lt (dd i)) pl) nd) (q9 + 1) = if (zLT 1000000 nd (fun i => zup (lt (dd i)) cd) (zusσ σ ne K vw nd)) 0 (q9 + 1) + zup (5 * (q9 + 1)) cd < (zch (fun n => (zLT 1000000 nd (fun i => zup (lt (dd i)) cd) (zusσ σ ne K vw nd)) 0 n) cd (zsum (fun i => zup (lt (dd i)) pl) nd) q9).1 then ((zLT 1000000 nd (fun i => zup (lt (dd i)) cd) (zusσ σ ne K vw nd)) 0 (q9 + 1) + zup (5 * (q9 + 1)) cd, q9 + 1) else (zch (fun n => (zLT 1000000 nd (fun i => zup (lt (dd i)) cd) (zusσ σ ne K vw nd)) 0 n) cd (zsum (fun i => zup (lt (dd i)) pl) nd) q9) := rfl
                  first
                  | (exfalso; omega)
                  | (rw [if_pos (by omega)] at hst
                     have e9 := fun v τ h1 h2 h3 h4 => ih_42 (q9 + 1) v τ (by omega) h1 h2 h3 h4 (by omega)
                     rw [hst] at e9
                     exact e9 _ _ (fun i h1 h2 h3 => by rw [z_up_ne h1]; exact hF i h1 h2 h3) (fun k hk => by rw [z_up_app, if_pos rfl, if_neg hk]; exact hF21 k hk) (fun p n h1 h2 => by rw [z_up_ne (by decide)]; exact hT p n h1 h2) (by rw [z_up_app, if_pos rfl, if_pos rfl]))
                  | (rw [if_neg (by omega)] at hst
                     have e9 := fun v τ h1 h2 h3 h4 => ih_42 (q9 + 1) v τ (by omega) h1 h2 h3 h4 (by omega)
                     rw [hst] at e9
                     exact e9 _ _ (fun i h1 h2 h3 => by rw [z_up_ne h1]; exact hF i h1 h2 h3) (fun k hk => by rw [z_up_app, if_pos rfl, if_neg hk]; exact hF21 k hk) (fun p n h1 h2 => by rw [z_up_ne (by decide)]; exact hT p n h1 h2) (by rw [z_up_app, if_pos rfl, if_pos rfl]))
              · skip
                try simp (disch := omega) only [zk0, nI_leI, nI_ltI, nI_eq, zbk_notn, zbk_not, zbk_n0, zbk_0, zb_0, zb_n0, zb_not, zb_notn, Bool.not_eq_false, Bool.not_eq_true, Bool.not_eq_true', Bool.not_eq_false', decide_eq_true_eq, decide_eq_false_iff_not, Classical.not_not] at c_95
                refine z_iload X dX9_packs_98 rfl ?_
                refine z_goto (tgt := 105) X dX9_packs_100 (by decide) ?_
                refine z_istore X dX9_packs_105 (by decide) ?_
                refine z_aload_n X dX9_packs_107 rfl ?_
                refine z_iload X dX9_packs_108 rfl ?_
                refine z_aload_n X dX9_packs_110 rfl ?_
                refine z_geti X fX9_228 (zso_21 hS) rfl dX9_packs_111 ?_
                rw [hpd]
                refine z_icmp_ge (tgt := 122) X dX9_packs_114 (by decide) (fun c_114 => ?_) (fun c_114 => ?_)
                · skip
                  try simp (disch := omega) only [zk0, nI_leI, nI_ltI, nI_eq, zbk_notn, zbk_not, zbk_n0, zbk_0, zb_0, zb_n0, zb_not, zb_notn, Bool.not_eq_false, Bool.not_eq_true, Bool.not_eq_true', Bool.not_eq_false', decide_eq_true_eq, decide_eq_false_iff_not, Classical.not_not] at c_114
                  refine z_aload_n X dX9_packs_122 rfl ?_
                  refine z_geti X fX9_228 (zso_21 hS) rfl dX9_packs_123 ?_
                  try rw [hpd]
                  refine z_puti X fX9_228 (zso_21 hS) rfl dX9_packs_126 ?_
                  refine z_inc1 X dX9_packs_129 rfl (by decide) ?_
                  refine z_goto (tgt := 42) X dX9_packs_132 (by decide) ?_
                  have hst : zch (fun n => (zLT 1000000 nd (fun i => zup (lt (dd i)) cd) (zusσ σ ne K vw nd)) 0 n) cd (zsum (fun i => zup (lt (dd i)) pl) nd) (q9 + 1) = if (zLT 1000000 nd (fun i => zup (lt (dd i)) cd) (zusσ σ ne K vw nd)) 0 (q9 + 1) + zup (5 * (q9 + 1)) cd < (zch (fun n => (zLT 1000000 nd (fun i => zup (lt (dd i)) cd) (zusσ σ ne K vw nd)) 0 n) cd (zsum (fun i => zup (lt (dd i)) pl) nd) q9).1 then ((zLT 1000000 nd (fun i => zup (lt (dd i)) cd) (zusσ σ ne K vw nd)) 0 (q9 + 1) + zup (5 * (q9 + 1)) cd, q9 + 1) else (zch (fun n => (zLT 1000000 nd (fun i => zup (lt (dd i)) cd) (zusσ σ ne K vw nd)) 0 n) cd (zsum (fun i => zup (lt (dd i)) pl) nd) q9) := rfl
                  first
                  | (exfalso; omega)
                  | (rw [if_pos (by omega)] at hst
                     have e9 := fun v τ h1 h2 h3 h4 => ih_42 (q9 + 1) v τ (by omega) h1 h2 h3 h4 (by omega)
                     rw [hst] at e9
                     exact e9 _ _ (fun i h1 h2 h3 => by rw [z_up_ne h1]; exact hF i h1 h2 h3) (fun k hk => by rw [z_up_app, if_pos rfl, if_neg hk]; exact hF21 k hk) (fun p n h1 h2 => by rw [z_up_ne (by decide)]; exact hT p n h1 h2) (by rw [z_up_app, if_pos rfl, if_pos rfl]))
                  | (rw [if_neg (by omega)] at hst
                     have e9 := fun v τ h1 h2 h3 h4 => ih_42 (q9 + 1) v τ (by omega) h1 h2 h3 h4 (by omega)
                     rw [hst] at e9
                     exact e9 _ _ (fun i h1 h2 h3 => by rw [z_up_ne h1]; exact hF i h1 h2 h3) (fun k hk => by rw [z_up_app, if_pos rfl, if_neg hk]; exact hF21 k hk) (fun p n h1 h2 => by rw [z_up_ne (by decide)]; exact hT p n h1 h2) (by rw [z_up_app, if_pos rfl, if_pos rfl]))
                · skip
                  try simp (disch := omega) only [zk0, nI_leI, nI_ltI, nI_eq, zbk_notn, zbk_not, zbk_n0, zbk_0, zb_0, zb_n0, zb_not, zb_notn, Bool.not_eq_false, Bool.not_eq_true, Bool.not_eq_true', Bool.not_eq_false', decide_eq_true_eq, decide_eq_false_iff_not, Classical.not_not] at c_114
                  refine z_iload X dX9_packs_117 rfl ?_
                  refine z_goto (tgt := 126) X dX9_packs_119 (by decide) ?_
                  try rw [hpd]
                  refine z_puti X fX9_228 (zso_21 hS) rfl dX9_packs_126 ?_
                  refine z_inc1 X dX9_packs_129 rfl (by decide) ?_
                  refine z_goto (tgt := 42) X dX9_packs_132 (by decide) ?_
                  have hst : zch (fun n => (zLT 1000000 nd (fun i => zup (lt (dd i)) cd) (zusσ σ ne K vw nd)) 0 n) cd (zsum (fun i => zup (lt (dd i)) pl) nd) (q9 + 1) = if (zLT 1000000 nd (fun i => zup (lt (dd i)) cd) (zusσ σ ne K vw nd)) 0 (q9 + 1) + zup (5 * (q9 + 1)) cd < (zch (fun n => (zLT 1000000 nd (fun i => zup (lt (dd i)) cd) (zusσ σ ne K vw nd)) 0 n) cd (zsum (fun i => zup (lt (dd i)) pl) nd) q9).1 then ((zLT 1000000 nd (fun i => zup (lt (dd i)) cd) (zusσ σ ne K vw nd)) 0 (q9 + 1) + zup (5 * (q9 + 1)) cd, q9 + 1) else (zch (fun n => (zLT 1000000 nd (fun i => zup (lt (dd i)) cd) (zusσ σ ne K vw nd)) 0 n) cd (zsum (fun i => zup (lt (dd i)) pl) nd) q9) := rfl
                  first
                  | (exfalso; omega)
                  | (rw [if_pos (by omega)] at hst
                     have e9 := fun v τ h1 h2 h3 h4 => ih_42 (q9 + 1) v τ (by omega) h1 h2 h3 h4 (by omega)
                     rw [hst] at e9
                     exact e9 _ _ (fun i h1 h2 h3 => by rw [z_up_ne h1]; exact hF i h1 h2 h3) (fun k hk => by rw [z_up_app, if_pos rfl, if_neg hk]; exact hF21 k hk) (fun p n h1 h2 => by rw [z_up_ne (by decide)]; exact hT p n h1 h2) (by rw [z_up_app, if_pos rfl, if_pos rfl]))
                  | (rw [if_neg (by omega)] at hst
                     have e9 := fun v τ h1 h2 h3 h4 => ih_42 (q9 + 1) v τ (by omega) h1 h2 h3 h4 (by omega)
                     rw [hst] at e9
                     exact e9 _ _ (fun i h1 h2 h3 => by rw [z_up_ne h1]; exact hF i h1 h2 h3) (fun k hk => by rw [z_up_app, if_pos rfl, if_neg hk]; exact hF21 k hk) (fun p n h1 h2 => by rw [z_up_ne (by decide)]; exact hT p n h1 h2) (by rw [z_up_app, if_pos rfl, if_pos rfl]))
      refine z_iconst (v := nI 1) X (by decide) dX9_packs_39 ?_
      refine z_istore X dX9_packs_40 (by decide) ?_
      exact loop_42 (24 - 0 + 1) 0 _ s7 (Nat.zero_le _) (fun i h1 h2 h3 => by rw [h7 i h2, z_up_ne h1]) (fun k hk => by rw [h7 21 (by decide), z_up_app, if_pos rfl, if_neg hk]) hT7 (by rw [h7 21 (by decide), z_up_app, if_pos rfl, if_pos rfl]; rfl) (by omega)

set_option maxHeartbeats 4000000 in
set_option maxRecDepth 100000 in
theorem tX9_words {l : Launch} {D : va_G} {cy : Nat → ClassId} {z0 : Nat} {g : zSh} {σ : zIn} {K ni nd ne nu mi j0 pl cd vw : Nat} {no : Nat} {lt dd dy : Nat → Nat} (b : Bool) (xq : Int32) (hS : zS g) (hno : σ 21 5 = nI no) (hn8 : no ≤ 8) (hP : ∀ o, o < no → xq = nI o → ∃ K j0 pl cd vw, zPk σ o K ni nd ne nu mi j0 pl cd vw lt dd dy) : z_Ct l D cy z0 MX9_words [.ref (g.2.1 21), .int xq, .int (zb b)] g σ (fun v g' σ' => g' = g ∧ ∃ r, v = some (.int r) ∧ zMP (zx_in no xq) σ σ' (∃ o K j0 pl cd vw paid many L τ, o < no ∧ xq = nI o ∧ zPk σ o K ni nd ne nu mi j0 pl cd vw lt dd dy ∧ τ = z_up σ 21 48 0 ∧ zPf τ σ' ne K nd pl cd vw lt dd b paid many L ∧ r = nI paid)) := by
  refine z_ofM (by decide) (z_cr (z_ci (z_ci z_c0))) (Nat.le_of_ble_eq_true rfl) ?_
  intro p e s m args below meth c X
  refine z_aload_n X dX9_words_0 rfl ?_
  refine z_aload_n X dX9_words_1 rfl ?_
  refine z_iload_n X dX9_words_2 rfl ?_
  refine z_runV X kX9_184 (tX9_isOffice _ hS hno (by omega)) (zso_21 hS) rfl rfl (Nat.le_of_ble_eq_true rfl) ⟨by decide, by decide⟩ ⟨by decide, by decide⟩ dX9_words_3 ?_
  rintro _ g1 s1 ⟨rfl, h8, h9⟩
  replace h8 := h8.symm
  subst h8
  replace h9 := h9.symm
  subst h9
  obtain ⟨b6, hb6⟩ : ∃ q : Bool, q = zin xq no := ⟨_, rfl⟩
  rw [← hb6]
  cases b6
  · skip
    skip
    refine z_runV X kX9_150 (tX9_asks false hS) (zso_21 hS) rfl rfl (Nat.le_of_ble_eq_true rfl) ⟨by decide, by decide⟩ ⟨by decide, by decide⟩ dX9_words_6 ?_
    rintro _ g1 s1 ⟨rfl, h8, h9⟩
    replace h8 := h8.symm
    subst h8
    replace h9 := h9.symm
    subst h9
    refine z_if_ne (tgt := 14) X dX9_words_9 (by decide) (fun c_9 => ?_) (fun c_9 => ?_)
    · exact absurd rfl c_9
    · skip
      refine z_iconst (v := 0) X (by decide) dX9_words_12 ?_
      refine z_iret X (by decide) (by decide) rfl dX9_words_13 ?_
      exact ⟨rfl, _, rfl, zMP_1 (j := 0) (by unfold zx_in; rw [← hb6]; rfl) rfl⟩
  · skip
    skip
    refine z_runV X kX9_150 (tX9_asks true hS) (zso_21 hS) rfl rfl (Nat.le_of_ble_eq_true rfl) ⟨by decide, by decide⟩ ⟨by decide, by decide⟩ dX9_words_6 ?_
    rintro _ g1 s1 ⟨rfl, h8, h9⟩
    replace h8 := h8.symm
    subst h8
    replace h9 := h9.symm
    subst h9
    refine z_if_ne (tgt := 14) X dX9_words_9 (by decide) (fun c_9 => ?_) (fun c_9 => ?_)
    · skip
      obtain ⟨o, ho, rfl⟩ := zin_t hb6.symm (by omega)
      obtain ⟨K2, j02, pl2, cd2, vw2, hPo⟩ := hP o ho rfl
      refine z_aload_n X dX9_words_14 rfl ?_
      refine z_iload_n X dX9_words_15 rfl ?_
      refine z_iload_n X dX9_words_16 rfl ?_
      refine z_runV X kX9_238 (tX9_packs (o := o) b hS (zPk_e hPo (fun i h _ _ => z_up_ne h) (fun k _ _ h => by rw [z_up_app, if_pos rfl, if_neg h]))) (zso_21 hS) rfl rfl (Nat.le_of_ble_eq_true rfl) ⟨by decide, by decide⟩ ⟨by decide, by decide⟩ dX9_words_17 ?_
      rintro _ g1 s7 ⟨rfl, h8, paid, many, L9, hPf⟩
      replace h8 := h8.symm
      subst h8
      refine z_aload_n X dX9_words_20 rfl ?_
      refine z_geti X fX9_228 (zso_21 hS) rfl dX9_words_21 ?_
      rw [hPf.2.2.2.2.1]
      refine z_iret X (by decide) (by decide) rfl dX9_words_24 ?_
      exact ⟨rfl, _, rfl, Or.inr ⟨by unfold zx_in; rw [if_pos hb6.symm], o, K2, j02, pl2, cd2, vw2, paid, many, L9, _, ho, rfl, hPo, rfl, hPf, rfl⟩⟩
    · exact absurd c_9 (by decide)
