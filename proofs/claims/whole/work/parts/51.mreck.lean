/-! contracts of the reference: the least table -/
theorem zen_e {σ τ : zIn} {ne K vw nd p m : Nat} {r : Int32} (h1 : ∀ i, i ≠ 21 → i ≠ 39 → i ≠ 40 → τ i = σ i) (h : zen τ ne K vw nd p m r) : zen σ ne K vw nd p m r := by
  unfold zen zusσ at h
  rw [h1 24 (by decide) (by decide) (by decide), h1 38 (by decide) (by decide) (by decide), h1 23 (by decide) (by decide) (by decide)] at h
  exact h
theorem zpm_lt {q : Nat} (hq : q < 1000) : nI q - 1 < 0 ↔ q = 0 := by
  rw [Int32.lt_iff_toInt_lt, zsub1 (by omega)]
  have : (0 : Int32).toInt = 0 := by decide
  rw [this]; omega
theorem zpm_s {q : Nat} : nI (q + 1) - 1 = nI q := by
  rw [← nI_1]; exact Int32.add_sub_cancel _ _
theorem zpm_m {q : Nat} : nI q + (-1) = nI q - 1 := (Int32.sub_eq_add_neg _ _).symm
theorem zLTm_le {B nd : Nat} {pl : Nat → Nat} {us : Nat → Nat → Bool} {p n : Nat} : ∀ m, zLTm B nd pl us p n m ≤ pl p + B
  | 0 => Nat.add_le_add_left zLT_le _
  | m + 1 => Nat.le_trans (Nat.min_le_left _ _) (zLTm_le m)
theorem zLTm_s {B nd : Nat} {pl : Nat → Nat} {us : Nat → Nat → Bool} {p n m : Nat} : zLTm B nd pl us p n (m + 1) = min (zLTm B nd pl us p n m) (if us p (m + 1) && decide (0 < n) then zLT B nd pl us (p + (m + 1)) (n - 1) else B) := rfl
set_option maxHeartbeats 4000000 in
set_option maxRecDepth 100000 in
theorem tX9_reckons {l : Launch} {D : va_G} {cy : Nat → ClassId} {z0 : Nat} {g : zSh} {σ : zIn} {o K ni nd ne nu mi j0 pl cd vw : Nat} {lt dd dy : Nat → Nat} (hS : zS g) (hP : zPk σ o K ni nd ne nu mi j0 pl cd vw lt dd dy) : z_Ct l D cy z0 MX9_reckons [.ref (g.2.1 21), .int (nI o)] g σ (fun v g' σ' => v = none ∧ g' = g ∧ (∀ i, i ≠ 39 → σ' i = σ i) ∧ ∀ p n, p ≤ nd → n ≤ 24 → σ' 39 (25 * p + n) = nI ((zLT 1000000 nd (fun i => zup (lt (dd i)) cd) (zusσ σ ne K vw nd)) p n)) := by
  have hP9 := hP
  obtain ⟨⟨he, he2, hC, hNC⟩, ⟨ho, hK, hK2⟩, ⟨hnd, hn24, hdd⟩, ⟨hni, hlt⟩, ⟨hnu, hn12, hmi, hmi2, hdy⟩, hj0, hpl, hpl1, hpl2, hcd, hcd1, hcd2, hvw, hvw2⟩ := hP9
  have hj12 := zrr_le hj0
  refine z_ofM (by decide) (z_cr (z_ci z_c0)) (Nat.le_of_ble_eq_true rfl) ?_
  intro p e s m args below meth c X
  refine z_aload_n X dX9_reckons_0 rfl ?_
  refine z_getr2 X fX9_53 (zso_21 hS) (zsr_21_19 hS) rfl dX9_reckons_1 ?_
  refine z_aload_n X dX9_reckons_4 rfl ?_
  refine z_iload_n X dX9_reckons_5 rfl ?_
  refine z_runV X kX9_199 (tX9_rulesAt o hS hnu hn12 hmi hmi2 hdy ho) (zso_21 hS) rfl rfl (Nat.le_of_ble_eq_true rfl) ⟨by decide, by decide⟩ ⟨by decide, by decide⟩ dX9_reckons_6 ?_
  rintro _ g1 s1 ⟨j, rfl, h8, h9, hj⟩
  replace h8 := h8.symm
  subst h8
  replace h9 := h9.symm
  subst h9
  obtain rfl : j0 = j := zrr_u hj0 hj
  refine z_ialdN X (zsa_36 hS) (by omega) (by omega) dX9_reckons_9 ?_
  rw [hcd]
  refine z_istore_n X dX9_reckons_10 (by decide) ?_
  have loop_16 : ∀ (n : Nat) (q : Nat) (v4 v5 v6 v7 : Option Value) (τ : zIn) (hq : q ≤ nd + 1) (hF : ∀ i, i ≠ 39 → τ i = σ i) (hT : ∀ p, q ≤ p → p ≤ nd → ∀ n, n ≤ 24 → τ 39 (25 * p + n) = nI ((zLT 1000000 nd (fun i => zup (lt (dd i)) cd) (zusσ σ ne K vw nd)) p n)) (hn : q < n), z_V p l e (zRm MX9_reckons) s m args below meth c 8 D cy z0 0 0 (zQm MX9_reckons below D cy z0 (fun v g' σ' => v = none ∧ g' = g ∧ (∀ i, i ≠ 39 → σ' i = σ i) ∧ ∀ p n, p ≤ nd → n ≤ 24 → σ' 39 (25 * p + n) = nI ((zLT 1000000 nd (fun i => zup (lt (dd i)) cd) (zusσ σ ne K vw nd)) p n)) args s) 16 [some (.ref (g.2.1 21)), some (.int (nI o)), some (.int (nI cd)), some (.int (nI q - 1)), v4, v5, v6, v7] [] g τ := by
    intro n
    induction n with
    | zero => intro q v4 v5 v6 v7 τ hq hF hT hn; exact absurd hn (Nat.not_lt_zero _)
    | succ n ih_16 =>
      intro q v4 v5 v6 v7 τ hq hF hT hn
      refine z_iload_n X dX9_reckons_16 rfl ?_
      refine z_if_lt (tgt := 193) X dX9_reckons_17 (by decide) (fun c_17 => ?_) (fun c_17 => ?_)
      · skip
        refine z_vret X (by decide) (by decide) rfl dX9_reckons_193 ?_
        have hq0 := (zpm_lt (q := q) (by omega)).mp c_17
        subst hq0
        exact ⟨rfl, rfl, hF, fun p n h1 h2 => hT p (Nat.zero_le _) h1 n h2⟩
      · skip
        have hq0 : q ≠ 0 := fun e => c_17 ((zpm_lt (by omega)).mpr e)
        obtain ⟨p9, rfl⟩ : ∃ p9, q = p9 + 1 := ⟨q - 1, by omega⟩
        rw [zpm_s]
        have loop_23 : ∀ (n : Nat) (n9 : Nat) (v5 v6 v7 : Option Value) (υ : zIn) (hn25 : n9 ≤ 25) (hF3 : ∀ i, i ≠ 39 → υ i = σ i) (hT2 : (∀ p, p9 < p → p ≤ nd → ∀ n, n ≤ 24 → υ 39 (25 * p + n) = nI ((zLT 1000000 nd (fun i => zup (lt (dd i)) cd) (zusσ σ ne K vw nd)) p n)) ∧ ∀ n, n < n9 → υ 39 (25 * p9 + n) = nI ((zLT 1000000 nd (fun i => zup (lt (dd i)) cd) (zusσ σ ne K vw nd)) p9 n)) (hn : 25 - n9 < n), z_V p l e (zRm MX9_reckons) s m args below meth c 8 D cy z0 0 0 (zQm MX9_reckons below D cy z0 (fun v g' σ' => v = none ∧ g' = g ∧ (∀ i, i ≠ 39 → σ' i = σ i) ∧ ∀ p n, p ≤ nd → n ≤ 24 → σ' 39 (25 * p + n) = nI ((zLT 1000000 nd (fun i => zup (lt (dd i)) cd) (zusσ σ ne K vw nd)) p n)) args s) 23 [some (.ref (g.2.1 21)), some (.int (nI o)), some (.int (nI cd)), some (.int (nI p9)), some (.int (nI n9)), v5, v6, v7] [] g υ := by
          intro n
          induction n with
          | zero => intro n9 v5 v6 v7 υ hn25 hF3 hT2 hn; exact absurd hn (Nat.not_lt_zero _)
          | succ n ih_23 =>
            intro n9 v5 v6 v7 υ hn25 hF3 hT2 hn
            have hF2 : ∀ i, i ≠ 21 → i ≠ 39 → i ≠ 40 → υ i = σ i := fun i _ h _ => hF3 i h
            have hPυ : zPk υ o K ni nd ne nu mi j0 pl cd vw lt dd dy := zPk_e hP hF2 (fun k _ _ _ => by rw [hF3 21 (by decide)])
            have hndυ : υ 21 22 = nI nd := by rw [hF3 21 (by decide)]; exact hnd
            refine z_iload X dX9_reckons_23 rfl ?_
            refine z_bipush (v := nI 25) X (by decide) dX9_reckons_25 ?_
            refine z_icmp_ge (tgt := 187) X dX9_reckons_27 (by decide) (fun c_27 => ?_) (fun c_27 => ?_)
            · skip
              try simp (disch := omega) only [zk0, nI_leI, nI_ltI, nI_eq, zbk_notn, zbk_not, zbk_n0, zbk_0, zb_0, zb_n0, zb_not, zb_notn, Bool.not_eq_false, Bool.not_eq_true, Bool.not_eq_true', Bool.not_eq_false', decide_eq_true_eq, decide_eq_false_iff_not, Classical.not_not] at c_27
              refine z_iinc (v := -1) X dX9_reckons_187 rfl (by decide) (by decide) ?_
              refine z_goto (tgt := 16) X dX9_reckons_190 (by decide) ?_
              rw [zpm_m]
              have hn9 : n9 = 25 := by omega
              subst hn9
              exact ih_16 p9 _ _ _ _ υ (by omega) hF3 (fun p h1 h2 n h3 => by rcases Nat.lt_or_ge p9 p with h | h; exact hT2.1 p h h2 n h3; (have e : p = p9 := by omega); subst e; exact hT2.2 n (by omega)) (by omega)
            · skip
              try simp (disch := omega) only [zk0, nI_leI, nI_ltI, nI_eq, zbk_notn, zbk_not, zbk_n0, zbk_0, zb_0, zb_n0, zb_not, zb_notn, Bool.not_eq_false, Bool.not_eq_true, Bool.not_eq_true', Bool.not_eq_false', decide_eq_true_eq, decide_eq_false_iff_not, Classical.not_not] at c_27
              refine z_iload_n X dX9_reckons_30 rfl ?_
              refine z_aload_n X dX9_reckons_31 rfl ?_
              refine z_geti X fX9_202 (zso_21 hS) rfl dX9_reckons_32 ?_
              rw [hndυ]
              refine z_icmp_ne (tgt := 52) X dX9_reckons_35 (by decide) (fun c_35 => ?_) (fun c_35 => ?_)
              · skip
                try simp (disch := omega) only [zk0, nI_leI, nI_ltI, nI_eq, zbk_notn, zbk_not, zbk_n0, zbk_0, zb_0, zb_n0, zb_not, zb_notn, Bool.not_eq_false, Bool.not_eq_true, Bool.not_eq_true', Bool.not_eq_false', decide_eq_true_eq, decide_eq_false_iff_not, Classical.not_not] at c_35
                refine z_aload_n X dX9_reckons_52 rfl ?_
                refine z_iload_n X dX9_reckons_53 rfl ?_
                refine z_iload_n X dX9_reckons_54 rfl ?_
                refine z_runV X kX9_214 (tX9_plainAt (o := o) p9 cd hS hPυ (by omega) hcd1 (by omega)) (zso_21 hS) rfl rfl (Nat.le_of_ble_eq_true rfl) ⟨by decide, by decide⟩ ⟨by decide, by decide⟩ dX9_reckons_55 ?_
                rintro _ g1 s1 ⟨rfl, h8, h9⟩
                replace h8 := h8.symm
                subst h8
                replace h9 := h9.symm
                subst h9
                refine z_aload_n X dX9_reckons_58 rfl ?_
                refine z_getr2 X fX9_62 (zso_21 hS) (zsr_21_23 hS) rfl dX9_reckons_59 ?_
                refine z_bipush (v := nI 25) X (by decide) dX9_reckons_62 ?_
                refine z_iload_n X dX9_reckons_64 rfl ?_
                refine z_iconst (v := nI 1) X (by decide) dX9_reckons_65 ?_
                refine z_iaddN X dX9_reckons_66 ?_
                refine z_imulN X dX9_reckons_67 ?_
                refine z_iload X dX9_reckons_68 rfl ?_
                refine z_iaddN X dX9_reckons_70 ?_
                skip
                refine z_ialdN X (zsa_39 hS) (by omega) (by omega) dX9_reckons_71 ?_
                rw [show 25 * (p9 + 1) + n9 = 25 * (p9 + 1) + n9 from rfl, hT2.1 (p9 + 1) (by omega) (by omega) n9 (by omega)]
                refine z_iaddN X dX9_reckons_72 ?_
                try rw [zkM]
                first
                | (have hb0 : (p9 < nd ∧ 0 < n9 ∧ 0 = (zLTm 1000000 nd (fun i => zup (lt (dd i)) cd) (zusσ σ ne K vw nd)) p9 n9 0 ∧ 0 ≤ 4) ∨ (¬ (p9 < nd ∧ 0 < n9) ∧ min 1000000 0 = (zLT 1000000 nd (fun i => zup (lt (dd i)) cd) (zusσ σ ne K vw nd)) p9 n9) := Or.inr ⟨fun q => by omega, by rw [zLT_ge (by omega), if_pos c_40]; rfl⟩; have hb02 : 0 ≤ 1000020 := by omega)
                | (have hb0 : (p9 < nd ∧ 0 < n9 ∧ 1000000 = (zLTm 1000000 nd (fun i => zup (lt (dd i)) cd) (zusσ σ ne K vw nd)) p9 n9 0 ∧ 0 ≤ 4) ∨ (¬ (p9 < nd ∧ 0 < n9) ∧ min 1000000 1000000 = (zLT 1000000 nd (fun i => zup (lt (dd i)) cd) (zusσ σ ne K vw nd)) p9 n9) := Or.inr ⟨fun q => by omega, by rw [zLT_ge (by omega), if_neg c_40]; rfl⟩; have hb02 : 1000000 ≤ 1000020 := by omega)
                | (have hpn : p9 < nd := by omega
                   have hlp := (hdd p9 hpn).2
                   have hup := zup_le (a := lt (dd p9)) (b := cd) (by omega) (hlt _ hlp).2.1
                   have hl20 := (hlt _ hlp).2.2
                   have hbl : (zLT 1000000 nd (fun i => zup (lt (dd i)) cd) (zusσ σ ne K vw nd)) (p9 + 1) n9 ≤ 1000000 := zLT_le
                   have hb0 : (p9 < nd ∧ 0 < n9 ∧ zup (lt (dd p9)) cd + (zLT 1000000 nd (fun i => zup (lt (dd i)) cd) (zusσ σ ne K vw nd)) (p9 + 1) n9 = (zLTm 1000000 nd (fun i => zup (lt (dd i)) cd) (zusσ σ ne K vw nd)) p9 n9 0 ∧ 0 ≤ 4) ∨ (¬ (p9 < nd ∧ 0 < n9) ∧ min 1000000 (zup (lt (dd p9)) cd + (zLT 1000000 nd (fun i => zup (lt (dd i)) cd) (zusσ σ ne K vw nd)) (p9 + 1) n9) = (zLT 1000000 nd (fun i => zup (lt (dd i)) cd) (zusσ σ ne K vw nd)) p9 n9) := by
                     rcases Nat.eq_zero_or_pos n9 with h0 | h0
                     · refine Or.inr ⟨fun q => by omega, ?_⟩
                       have e0 : decide (0 < n9) = false := decide_eq_false (by omega)
                       rw [zLT_lt hpn, zLTm_s, zLTm_s, zLTm_s, zLTm_s, e0]
                       simp only [Bool.and_false, Bool.false_eq_true, if_false]
                       show min 1000000 _ = min 1000000 (min (min (min (min (zup (lt (dd p9)) cd + (zLT 1000000 nd (fun i => zup (lt (dd i)) cd) (zusσ σ ne K vw nd)) (p9 + 1) n9) 1000000) 1000000) 1000000) 1000000)
                       omega
                     · exact Or.inl ⟨hpn, h0, rfl, by omega⟩
                   have hb02 : zup (lt (dd p9)) cd + (zLT 1000000 nd (fun i => zup (lt (dd i)) cd) (zusσ σ ne K vw nd)) (p9 + 1) n9 ≤ 1000020 := by omega)
                refine z_istore X dX9_reckons_73 (by decide) ?_
                have loop_78 : ∀ (n : Nat) (m9 b9 : Nat) (v7 : Option Value) (hm5 : m9 ≤ 4) (hb : (p9 < nd ∧ 0 < n9 ∧ b9 = (zLTm 1000000 nd (fun i => zup (lt (dd i)) cd) (zusσ σ ne K vw nd)) p9 n9 m9 ∧ m9 ≤ 4) ∨ (¬ (p9 < nd ∧ 0 < n9) ∧ min 1000000 b9 = (zLT 1000000 nd (fun i => zup (lt (dd i)) cd) (zusσ σ ne K vw nd)) p9 n9)) (hb2 : b9 ≤ 1000020) (hn : 4 - m9 < n), z_V p l e (zRm MX9_reckons) s m args below meth c 8 D cy z0 0 0 (zQm MX9_reckons below D cy z0 (fun v g' σ' => v = none ∧ g' = g ∧ (∀ i, i ≠ 39 → σ' i = σ i) ∧ ∀ p n, p ≤ nd → n ≤ 24 → σ' 39 (25 * p + n) = nI ((zLT 1000000 nd (fun i => zup (lt (dd i)) cd) (zusσ σ ne K vw nd)) p n)) args s) 78 [some (.ref (g.2.1 21)), some (.int (nI o)), some (.int (nI cd)), some (.int (nI p9)), some (.int (nI n9)), some (.int (nI b9)), some (.int (nI (m9 + 1))), v7] [] g υ := by
                  intro n
                  induction n with
                  | zero => intro m9 b9 v7 hm5 hb hb2 hn; exact absurd hn (Nat.not_lt_zero _)
                  | succ n ih_78 =>
                    intro m9 b9 v7 hm5 hb hb2 hn
                    refine z_iload X dX9_reckons_78 rfl ?_
                    refine z_iconst (v := nI 5) X (by decide) dX9_reckons_80 ?_
                    refine z_icmp_ge (tgt := 155) X dX9_reckons_81 (by decide) (fun c_81 => ?_) (fun c_81 => ?_)
                    · skip
                      try simp (disch := omega) only [zk0, nI_leI, nI_ltI, nI_eq, zbk_notn, zbk_not, zbk_n0, zbk_0, zb_0, zb_n0, zb_not, zb_notn, Bool.not_eq_false, Bool.not_eq_true, Bool.not_eq_true', Bool.not_eq_false', decide_eq_true_eq, decide_eq_false_iff_not, Classical.not_not] at c_81
                      have hfin : min 1000000 b9 = (zLT 1000000 nd (fun i => zup (lt (dd i)) cd) (zusσ σ ne K vw nd)) p9 n9 := by rcases hb with ⟨q1, q2, q3, q4⟩ | ⟨-, q⟩; (have e4 : m9 = 4 := by omega); subst e4; rw [q3, zLT_lt q1]; exact q
                      refine z_aload_n X dX9_reckons_155 rfl ?_
                      refine z_getr2 X fX9_62 (zso_21 hS) (zsr_21_23 hS) rfl dX9_reckons_156 ?_
                      refine z_bipush (v := nI 25) X (by decide) dX9_reckons_159 ?_
                      refine z_iload_n X dX9_reckons_161 rfl ?_
                      refine z_imulN X dX9_reckons_162 ?_
                      refine z_iload X dX9_reckons_163 rfl ?_
                      refine z_iaddN X dX9_reckons_165 ?_
                      refine z_iload X dX9_reckons_166 rfl ?_
                      refine z_ldc X qX9_217 dX9_reckons_168 ?_
                      rw [zkM]
                      refine z_icmp_le (tgt := 178) X dX9_reckons_170 (by decide) (fun c_170 => ?_) (fun c_170 => ?_)
                      · skip
                        try simp (disch := omega) only [zk0, nI_leI, nI_ltI, nI_eq, zbk_notn, zbk_not, zbk_n0, zbk_0, zb_0, zb_n0, zb_not, zb_notn, Bool.not_eq_false, Bool.not_eq_true, Bool.not_eq_true', Bool.not_eq_false', decide_eq_true_eq, decide_eq_false_iff_not, Classical.not_not] at c_170
                        refine z_iload X dX9_reckons_178 rfl ?_
                        first | rw [show Value.int (nI b9) :: [Value.int (nI (25 * p9 + n9)), Value.ref (g.2.1 39)] = Value.int (nI ((zLT 1000000 nd (fun i => zup (lt (dd i)) cd) (zusσ σ ne K vw nd)) p9 n9)) :: [Value.int (nI (25 * p9 + n9)), Value.ref (g.2.1 39)] from by rw [← hfin, Nat.min_eq_right (a := 1000000) (b := b9) (by omega)]] | rw [show (1000000 : Int32) = nI ((zLT 1000000 nd (fun i => zup (lt (dd i)) cd) (zusσ σ ne K vw nd)) p9 n9) from by rw [← hfin, Nat.min_eq_left (a := 1000000) (b := b9) (by omega)]; rfl]
                        refine z_iastN X (zsa_39 hS) (by omega) (by omega) dX9_reckons_180 ?_
                        refine z_inc1 X dX9_reckons_181 rfl (by decide) ?_
                        refine z_goto (tgt := 23) X dX9_reckons_184 (by decide) ?_
                        refine ih_23 (n9 + 1) _ _ _ _ (by omega) (fun i hi => by rw [z_up_ne hi]; exact hF3 i hi) ⟨fun p h1 h2 n h3 => ?_, fun n h => ?_⟩ (by omega)
                        · rw [z_up_app, if_pos rfl, if_neg (by omega)]; exact hT2.1 p h1 h2 n h3
                        · rw [z_up_app, if_pos rfl]
                          by_cases e : n = n9
                          · subst e; rw [if_pos rfl]
                          · rw [if_neg (by omega)]; exact hT2.2 n (by omega)
                      · skip
                        try simp (disch := omega) only [zk0, nI_leI, nI_ltI, nI_eq, zbk_notn, zbk_not, zbk_n0, zbk_0, zb_0, zb_n0, zb_not, zb_notn, Bool.not_eq_false, Bool.not_eq_true, Bool.not_eq_true', Bool.not_eq_false', decide_eq_true_eq, decide_eq_false_iff_not, Classical.not_not] at c_170
                        refine z_ldc X qX9_217 dX9_reckons_173 ?_
                        refine z_goto (tgt := 180) X dX9_reckons_175 (by decide) ?_
                        first | rw [show Value.int (nI b9) :: [Value.int (nI (25 * p9 + n9)), Value.ref (g.2.1 39)] = Value.int (nI ((zLT 1000000 nd (fun i => zup (lt (dd i)) cd) (zusσ σ ne K vw nd)) p9 n9)) :: [Value.int (nI (25 * p9 + n9)), Value.ref (g.2.1 39)] from by rw [← hfin, Nat.min_eq_right (a := 1000000) (b := b9) (by omega)]] | rw [show (1000000 : Int32) = nI ((zLT 1000000 nd (fun i => zup (lt (dd i)) cd) (zusσ σ ne K vw nd)) p9 n9) from by rw [← hfin, Nat.min_eq_left (a := 1000000) (b := b9) (by omega)]; rfl]
                        refine z_iastN X (zsa_39 hS) (by omega) (by omega) dX9_reckons_180 ?_
                        refine z_inc1 X dX9_reckons_181 rfl (by decide) ?_
                        refine z_goto (tgt := 23) X dX9_reckons_184 (by decide) ?_
                        refine ih_23 (n9 + 1) _ _ _ _ (by omega) (fun i hi => by rw [z_up_ne hi]; exact hF3 i hi) ⟨fun p h1 h2 n h3 => ?_, fun n h => ?_⟩ (by omega)
                        · rw [z_up_app, if_pos rfl, if_neg (by omega)]; exact hT2.1 p h1 h2 n h3
                        · rw [z_up_app, if_pos rfl]
                          by_cases e : n = n9
                          · subst e; rw [if_pos rfl]
                          · rw [if_neg (by omega)]; exact hT2.2 n (by omega)
                    · skip
                      try simp (disch := omega) only [zk0, nI_leI, nI_ltI, nI_eq, zbk_notn, zbk_not, zbk_n0, zbk_0, zb_0, zb_n0, zb_not, zb_notn, Bool.not_eq_false, Bool.not_eq_true, Bool.not_eq_true', Bool.not_eq_false', decide_eq_true_eq, decide_eq_false_iff_not, Classical.not_not] at c_81
                      refine z_iload_n X dX9_reckons_84 rfl ?_
                      refine z_aload_n X dX9_reckons_85 rfl ?_
                      refine z_geti X fX9_202 (zso_21 hS) rfl dX9_reckons_86 ?_
                      rw [hndυ]
                      refine z_icmp_ge (tgt := 155) X dX9_reckons_89 (by decide) (fun c_89 => ?_) (fun c_89 => ?_)
                      · skip
                        try simp (disch := omega) only [zk0, nI_leI, nI_ltI, nI_eq, zbk_notn, zbk_not, zbk_n0, zbk_0, zb_0, zb_n0, zb_not, zb_notn, Bool.not_eq_false, Bool.not_eq_true, Bool.not_eq_true', Bool.not_eq_false', decide_eq_true_eq, decide_eq_false_iff_not, Classical.not_not] at c_89
                        have hfin : min 1000000 b9 = (zLT 1000000 nd (fun i => zup (lt (dd i)) cd) (zusσ σ ne K vw nd)) p9 n9 := by rcases hb with ⟨q1, q2, q3, q4⟩ | ⟨-, q⟩; (have e4 : m9 = 4 := by omega); subst e4; rw [q3, zLT_lt q1]; exact q
                        refine z_aload_n X dX9_reckons_155 rfl ?_
                        refine z_getr2 X fX9_62 (zso_21 hS) (zsr_21_23 hS) rfl dX9_reckons_156 ?_
                        refine z_bipush (v := nI 25) X (by decide) dX9_reckons_159 ?_
                        refine z_iload_n X dX9_reckons_161 rfl ?_
                        refine z_imulN X dX9_reckons_162 ?_
                        refine z_iload X dX9_reckons_163 rfl ?_
                        refine z_iaddN X dX9_reckons_165 ?_
                        refine z_iload X dX9_reckons_166 rfl ?_
                        refine z_ldc X qX9_217 dX9_reckons_168 ?_
                        rw [zkM]
                        refine z_icmp_le (tgt := 178) X dX9_reckons_170 (by decide) (fun c_170 => ?_) (fun c_170 => ?_)
                        · skip
                          try simp (disch := omega) only [zk0, nI_leI, nI_ltI, nI_eq, zbk_notn, zbk_not, zbk_n0, zbk_0, zb_0, zb_n0, zb_not, zb_notn, Bool.not_eq_false, Bool.not_eq_true, Bool.not_eq_true', Bool.not_eq_false', decide_eq_true_eq, decide_eq_false_iff_not, Classical.not_not] at c_170
                          refine z_iload X dX9_reckons_178 rfl ?_
                          first | rw [show Value.int (nI b9) :: [Value.int (nI (25 * p9 + n9)), Value.ref (g.2.1 39)] = Value.int (nI ((zLT 1000000 nd (fun i => zup (lt (dd i)) cd) (zusσ σ ne K vw nd)) p9 n9)) :: [Value.int (nI (25 * p9 + n9)), Value.ref (g.2.1 39)] from by rw [← hfin, Nat.min_eq_right (a := 1000000) (b := b9) (by omega)]] | rw [show (1000000 : Int32) = nI ((zLT 1000000 nd (fun i => zup (lt (dd i)) cd) (zusσ σ ne K vw nd)) p9 n9) from by rw [← hfin, Nat.min_eq_left (a := 1000000) (b := b9) (by omega)]; rfl]
                          refine z_iastN X (zsa_39 hS) (by omega) (by omega) dX9_reckons_180 ?_
                          refine z_inc1 X dX9_reckons_181 rfl (by decide) ?_
                          refine z_goto (tgt := 23) X dX9_reckons_184 (by decide) ?_
                          refine ih_23 (n9 + 1) _ _ _ _ (by omega) (fun i hi => by rw [z_up_ne hi]; exact hF3 i hi) ⟨fun p h1 h2 n h3 => ?_, fun n h => ?_⟩ (by omega)
                          · rw [z_up_app, if_pos rfl, if_neg (by omega)]; exact hT2.1 p h1 h2 n h3
                          · rw [z_up_app, if_pos rfl]
                            by_cases e : n = n9
                            · subst e; rw [if_pos rfl]
                            · rw [if_neg (by omega)]; exact hT2.2 n (by omega)
                        · skip
                          try simp (disch := omega) only [zk0, nI_leI, nI_ltI, nI_eq, zbk_notn, zbk_not, zbk_n0, zbk_0, zb_0, zb_n0, zb_not, zb_notn, Bool.not_eq_false, Bool.not_eq_true, Bool.not_eq_true', Bool.not_eq_false', decide_eq_true_eq, decide_eq_false_iff_not, Classical.not_not] at c_170
                          refine z_ldc X qX9_217 dX9_reckons_173 ?_
                          refine z_goto (tgt := 180) X dX9_reckons_175 (by decide) ?_
                          first | rw [show Value.int (nI b9) :: [Value.int (nI (25 * p9 + n9)), Value.ref (g.2.1 39)] = Value.int (nI ((zLT 1000000 nd (fun i => zup (lt (dd i)) cd) (zusσ σ ne K vw nd)) p9 n9)) :: [Value.int (nI (25 * p9 + n9)), Value.ref (g.2.1 39)] from by rw [← hfin, Nat.min_eq_right (a := 1000000) (b := b9) (by omega)]] | rw [show (1000000 : Int32) = nI ((zLT 1000000 nd (fun i => zup (lt (dd i)) cd) (zusσ σ ne K vw nd)) p9 n9) from by rw [← hfin, Nat.min_eq_left (a := 1000000) (b := b9) (by omega)]; rfl]
                          refine z_iastN X (zsa_39 hS) (by omega) (by omega) dX9_reckons_180 ?_
                          refine z_inc1 X dX9_reckons_181 rfl (by decide) ?_
                          refine z_goto (tgt := 23) X dX9_reckons_184 (by decide) ?_
                          refine ih_23 (n9 + 1) _ _ _ _ (by omega) (fun i hi => by rw [z_up_ne hi]; exact hF3 i hi) ⟨fun p h1 h2 n h3 => ?_, fun n h => ?_⟩ (by omega)
                          · rw [z_up_app, if_pos rfl, if_neg (by omega)]; exact hT2.1 p h1 h2 n h3
                          · rw [z_up_app, if_pos rfl]
                            by_cases e : n = n9
                            · subst e; rw [if_pos rfl]
                            · rw [if_neg (by omega)]; exact hT2.2 n (by omega)
                      · skip
                        try simp (disch := omega) only [zk0, nI_leI, nI_ltI, nI_eq, zbk_notn, zbk_not, zbk_n0, zbk_0, zb_0, zb_n0, zb_not, zb_notn, Bool.not_eq_false, Bool.not_eq_true, Bool.not_eq_true', Bool.not_eq_false', decide_eq_true_eq, decide_eq_false_iff_not, Classical.not_not] at c_89
                        refine z_iload X dX9_reckons_92 rfl ?_
                        refine z_if_le (tgt := 155) X dX9_reckons_94 (by decide) (fun c_94 => ?_) (fun c_94 => ?_)
                        · skip
                          try simp (disch := omega) only [zk0, nI_leI, nI_ltI, nI_eq, zbk_notn, zbk_not, zbk_n0, zbk_0, zb_0, zb_n0, zb_not, zb_notn, Bool.not_eq_false, Bool.not_eq_true, Bool.not_eq_true', Bool.not_eq_false', decide_eq_true_eq, decide_eq_false_iff_not, Classical.not_not] at c_94
                          have hfin : min 1000000 b9 = (zLT 1000000 nd (fun i => zup (lt (dd i)) cd) (zusσ σ ne K vw nd)) p9 n9 := by rcases hb with ⟨q1, q2, q3, q4⟩ | ⟨-, q⟩; (have e4 : m9 = 4 := by omega); subst e4; rw [q3, zLT_lt q1]; exact q
                          refine z_aload_n X dX9_reckons_155 rfl ?_
                          refine z_getr2 X fX9_62 (zso_21 hS) (zsr_21_23 hS) rfl dX9_reckons_156 ?_
                          refine z_bipush (v := nI 25) X (by decide) dX9_reckons_159 ?_
                          refine z_iload_n X dX9_reckons_161 rfl ?_
                          refine z_imulN X dX9_reckons_162 ?_
                          refine z_iload X dX9_reckons_163 rfl ?_
                          refine z_iaddN X dX9_reckons_165 ?_
                          refine z_iload X dX9_reckons_166 rfl ?_
                          refine z_ldc X qX9_217 dX9_reckons_168 ?_
                          rw [zkM]
                          refine z_icmp_le (tgt := 178) X dX9_reckons_170 (by decide) (fun c_170 => ?_) (fun c_170 => ?_)
                          · skip
                            try simp (disch := omega) only [zk0, nI_leI, nI_ltI, nI_eq, zbk_notn, zbk_not, zbk_n0, zbk_0, zb_0, zb_n0, zb_not, zb_notn, Bool.not_eq_false, Bool.not_eq_true, Bool.not_eq_true', Bool.not_eq_false', decide_eq_true_eq, decide_eq_false_iff_not, Classical.not_not] at c_170
                            refine z_iload X dX9_reckons_178 rfl ?_
                            first | rw [show Value.int (nI b9) :: [Value.int (nI (25 * p9 + n9)), Value.ref (g.2.1 39)] = Value.int (nI ((zLT 1000000 nd (fun i => zup (lt (dd i)) cd) (zusσ σ ne K vw nd)) p9 n9)) :: [Value.int (nI (25 * p9 + n9)), Value.ref (g.2.1 39)] from by rw [← hfin, Nat.min_eq_right (a := 1000000) (b := b9) (by omega)]] | rw [show (1000000 : Int32) = nI ((zLT 1000000 nd (fun i => zup (lt (dd i)) cd) (zusσ σ ne K vw nd)) p9 n9) from by rw [← hfin, Nat.min_eq_left (a := 1000000) (b := b9) (by omega)]; rfl]
                            refine z_iastN X (zsa_39 hS) (by omega) (by omega) dX9_reckons_180 ?_
                            refine z_inc1 X dX9_reckons_181 rfl (by decide) ?_
                            refine z_goto (tgt := 23) X dX9_reckons_184 (by decide) ?_
                            refine ih_23 (n9 + 1) _ _ _ _ (by omega) (fun i hi => by rw [z_up_ne hi]; exact hF3 i hi) ⟨fun p h1 h2 n h3 => ?_, fun n h => ?_⟩ (by omega)
                            · rw [z_up_app, if_pos rfl, if_neg (by omega)]; exact hT2.1 p h1 h2 n h3
                            · rw [z_up_app, if_pos rfl]
                              by_cases e : n = n9
                              · subst e; rw [if_pos rfl]
                              · rw [if_neg (by omega)]; exact hT2.2 n (by omega)
                          · skip
                            try simp (disch := omega) only [zk0, nI_leI, nI_ltI, nI_eq, zbk_notn, zbk_not, zbk_n0, zbk_0, zb_0, zb_n0, zb_not, zb_notn, Bool.not_eq_false, Bool.not_eq_true, Bool.not_eq_true', Bool.not_eq_false', decide_eq_true_eq, decide_eq_false_iff_not, Classical.not_not] at c_170
                            refine z_ldc X qX9_217 dX9_reckons_173 ?_
                            refine z_goto (tgt := 180) X dX9_reckons_175 (by decide) ?_
                            first | rw [show Value.int (nI b9) :: [Value.int (nI (25 * p9 + n9)), Value.ref (g.2.1 39)] = Value.int (nI ((zLT 1000000 nd (fun i => zup (lt (dd i)) cd) (zusσ σ ne K vw nd)) p9 n9)) :: [Value.int (nI (25 * p9 + n9)), Value.ref (g.2.1 39)] from by rw [← hfin, Nat.min_eq_right (a := 1000000) (b := b9) (by omega)]] | rw [show (1000000 : Int32) = nI ((zLT 1000000 nd (fun i => zup (lt (dd i)) cd) (zusσ σ ne K vw nd)) p9 n9) from by rw [← hfin, Nat.min_eq_left (a := 1000000) (b := b9) (by omega)]; rfl]
                            refine z_iastN X (zsa_39 hS) (by omega) (by omega) dX9_reckons_180 ?_
                            refine z_inc1 X dX9_reckons_181 rfl (by decide) ?_
                            refine z_goto (tgt := 23) X dX9_reckons_184 (by decide) ?_
                            refine ih_23 (n9 + 1) _ _ _ _ (by omega) (fun i hi => by rw [z_up_ne hi]; exact hF3 i hi) ⟨fun p h1 h2 n h3 => ?_, fun n h => ?_⟩ (by omega)
                            · rw [z_up_app, if_pos rfl, if_neg (by omega)]; exact hT2.1 p h1 h2 n h3
                            · rw [z_up_app, if_pos rfl]
                              by_cases e : n = n9
                              · subst e; rw [if_pos rfl]
                              · rw [if_neg (by omega)]; exact hT2.2 n (by omega)
                        · skip
                          try simp (disch := omega) only [zk0, nI_leI, nI_ltI, nI_eq, zbk_notn, zbk_not, zbk_n0, zbk_0, zb_0, zb_n0, zb_not, zb_notn, Bool.not_eq_false, Bool.not_eq_true, Bool.not_eq_true', Bool.not_eq_false', decide_eq_true_eq, decide_eq_false_iff_not, Classical.not_not] at c_94
                          have hb3 : p9 < nd ∧ 0 < n9 ∧ b9 = (zLTm 1000000 nd (fun i => zup (lt (dd i)) cd) (zusσ σ ne K vw nd)) p9 n9 m9 ∧ m9 ≤ 4 := by rcases hb with q | ⟨q, -⟩; exact q; exact absurd ⟨by omega, by omega⟩ q
                          refine z_aload_n X dX9_reckons_97 rfl ?_
                          refine z_iload_n X dX9_reckons_98 rfl ?_
                          refine z_iload X dX9_reckons_99 rfl ?_
                          refine z_iload_n X dX9_reckons_101 rfl ?_
                          refine z_runV X kX9_218 (tX9_entryAt (o := o) p9 (m9 + 1) hS hPυ (by omega) (by omega) (by omega)) (zso_21 hS) rfl rfl (Nat.le_of_ble_eq_true rfl) ⟨by decide, by decide⟩ ⟨by decide, by decide⟩ dX9_reckons_102 ?_
                          rintro _ g1 s1 ⟨r9, rfl, h8, h9, hr⟩
                          replace h8 := h8.symm
                          subst h8
                          replace h9 := h9.symm
                          subst h9
                          have hr1 := zen_e hF2 hr
                          have hr2 := zen_1 he2 hr1
                          refine z_iconst (v := -1) X (by decide) dX9_reckons_105 ?_
                          refine z_icmp_ne (tgt := 114) X dX9_reckons_106 (by decide) (fun c_106 => ?_) (fun c_106 => ?_)
                          · skip
                            have hbe : (if zusσ σ ne K vw nd p9 (m9 + 1) && decide (0 < n9) then (zLT 1000000 nd (fun i => zup (lt (dd i)) cd) (zusσ σ ne K vw nd)) (p9 + (m9 + 1)) (n9 - 1) else 1000000) = (zLT 1000000 nd (fun i => zup (lt (dd i)) cd) (zusσ σ ne K vw nd)) (p9 + (m9 + 1)) (n9 - 1) := by rcases hr2 with ⟨q, -⟩ | ⟨-, q⟩; exact absurd q c_106; rw [q, decide_eq_true hb3.2.1]; rfl
                            have hpm : p9 + (m9 + 1) ≤ nd := by rcases hr2 with ⟨q, -⟩ | ⟨-, q⟩; exact absurd q c_106; exact (zus_t.mp q).1
                            have hbl : (zLT 1000000 nd (fun i => zup (lt (dd i)) cd) (zusσ σ ne K vw nd)) (p9 + (m9 + 1)) (n9 - 1) ≤ 1000000 := zLT_le
                            refine z_aload_n X dX9_reckons_114 rfl ?_
                            refine z_getr2 X fX9_62 (zso_21 hS) (zsr_21_23 hS) rfl dX9_reckons_115 ?_
                            refine z_bipush (v := nI 25) X (by decide) dX9_reckons_118 ?_
                            refine z_iload_n X dX9_reckons_120 rfl ?_
                            refine z_iload X dX9_reckons_121 rfl ?_
                            refine z_iaddN X dX9_reckons_123 ?_
                            refine z_imulN X dX9_reckons_124 ?_
                            refine z_iload X dX9_reckons_125 rfl ?_
                            refine z_iaddN X dX9_reckons_127 ?_
                            refine z_iconst (v := nI 1) X (by decide) dX9_reckons_128 ?_
                            refine z_isubN X (by omega) dX9_reckons_129 ?_
                            refine z_ialdN X (zsa_39 hS) (by omega) (by omega) dX9_reckons_130 ?_
                            first | rw [zkM] | (rw [show 25 * (p9 + (m9 + 1)) + n9 - 1 = 25 * (p9 + (m9 + 1)) + (n9 - 1) by omega, hT2.1 (p9 + (m9 + 1)) (by omega) hpm (n9 - 1) (by omega)])
                            refine z_istore X dX9_reckons_131 (by decide) ?_
                            refine z_iload X dX9_reckons_133 rfl ?_
                            refine z_iload X dX9_reckons_135 rfl ?_
                            refine z_icmp_ge (tgt := 145) X dX9_reckons_137 (by decide) (fun c_137 => ?_) (fun c_137 => ?_)
                            · skip
                              try simp (disch := omega) only [zk0, nI_leI, nI_ltI, nI_eq, zbk_notn, zbk_not, zbk_n0, zbk_0, zb_0, zb_n0, zb_not, zb_notn, Bool.not_eq_false, Bool.not_eq_true, Bool.not_eq_true', Bool.not_eq_false', decide_eq_true_eq, decide_eq_false_iff_not, Classical.not_not] at c_137
                              refine z_iload X dX9_reckons_145 rfl ?_
                              refine z_istore X dX9_reckons_147 (by decide) ?_
                              refine z_inc1 X dX9_reckons_149 rfl (by decide) ?_
                              refine z_goto (tgt := 78) X dX9_reckons_152 (by decide) ?_
                              have hzz := zLTm_s (B := 1000000) (nd := nd) (pl := fun i => zup (lt (dd i)) cd) (us := zusσ σ ne K vw nd) (p := p9) (n := n9) (m := m9)
                              first
                              | exact ih_78 (m9 + 1) _ _ (by omega) (Or.inl ⟨hb3.1, hb3.2.1, by rw [hzz, hbe, ← hb3.2.2.1]; exact (Nat.min_eq_right (by omega)).symm, by omega⟩) (by omega) (by omega)
                              | exact ih_78 (m9 + 1) _ _ (by omega) (Or.inl ⟨hb3.1, hb3.2.1, by rw [hzz, hbe, ← hb3.2.2.1]; exact (Nat.min_eq_left (by omega)).symm, by omega⟩) (by omega) (by omega)
                            · skip
                              try simp (disch := omega) only [zk0, nI_leI, nI_ltI, nI_eq, zbk_notn, zbk_not, zbk_n0, zbk_0, zb_0, zb_n0, zb_not, zb_notn, Bool.not_eq_false, Bool.not_eq_true, Bool.not_eq_true', Bool.not_eq_false', decide_eq_true_eq, decide_eq_false_iff_not, Classical.not_not] at c_137
                              refine z_iload X dX9_reckons_140 rfl ?_
                              refine z_goto (tgt := 147) X dX9_reckons_142 (by decide) ?_
                              refine z_istore X dX9_reckons_147 (by decide) ?_
                              refine z_inc1 X dX9_reckons_149 rfl (by decide) ?_
                              refine z_goto (tgt := 78) X dX9_reckons_152 (by decide) ?_
                              have hzz := zLTm_s (B := 1000000) (nd := nd) (pl := fun i => zup (lt (dd i)) cd) (us := zusσ σ ne K vw nd) (p := p9) (n := n9) (m := m9)
                              first
                              | exact ih_78 (m9 + 1) _ _ (by omega) (Or.inl ⟨hb3.1, hb3.2.1, by rw [hzz, hbe, ← hb3.2.2.1]; exact (Nat.min_eq_right (by omega)).symm, by omega⟩) (by omega) (by omega)
                              | exact ih_78 (m9 + 1) _ _ (by omega) (Or.inl ⟨hb3.1, hb3.2.1, by rw [hzz, hbe, ← hb3.2.2.1]; exact (Nat.min_eq_left (by omega)).symm, by omega⟩) (by omega) (by omega)
                          · skip
                            have hbe : (if zusσ σ ne K vw nd p9 (m9 + 1) && decide (0 < n9) then (zLT 1000000 nd (fun i => zup (lt (dd i)) cd) (zusσ σ ne K vw nd)) (p9 + (m9 + 1)) (n9 - 1) else 1000000) = 1000000 := by rcases hr2 with ⟨-, q⟩ | ⟨q, -⟩; rw [q]; rfl; exact absurd c_106 q
                            have hbl : 1000000 ≤ 1000000 := Nat.le_refl _
                            refine z_ldc X qX9_217 dX9_reckons_109 ?_
                            refine z_goto (tgt := 131) X dX9_reckons_111 (by decide) ?_
                            first | rw [zkM] | (rw [show 25 * (p9 + (m9 + 1)) + n9 - 1 = 25 * (p9 + (m9 + 1)) + (n9 - 1) by omega, hT2.1 (p9 + (m9 + 1)) (by omega) hpm (n9 - 1) (by omega)])
                            refine z_istore X dX9_reckons_131 (by decide) ?_
                            refine z_iload X dX9_reckons_133 rfl ?_
                            refine z_iload X dX9_reckons_135 rfl ?_
                            refine z_icmp_ge (tgt := 145) X dX9_reckons_137 (by decide) (fun c_137 => ?_) (fun c_137 => ?_)
                            · skip
                              try simp (disch := omega) only [zk0, nI_leI, nI_ltI, nI_eq, zbk_notn, zbk_not, zbk_n0, zbk_0, zb_0, zb_n0, zb_not, zb_notn, Bool.not_eq_false, Bool.not_eq_true, Bool.not_eq_true', Bool.not_eq_false', decide_eq_true_eq, decide_eq_false_iff_not, Classical.not_not] at c_137
                              refine z_iload X dX9_reckons_145 rfl ?_
                              refine z_istore X dX9_reckons_147 (by decide) ?_
                              refine z_inc1 X dX9_reckons_149 rfl (by decide) ?_
                              refine z_goto (tgt := 78) X dX9_reckons_152 (by decide) ?_
                              have hzz := zLTm_s (B := 1000000) (nd := nd) (pl := fun i => zup (lt (dd i)) cd) (us := zusσ σ ne K vw nd) (p := p9) (n := n9) (m := m9)
                              first
                              | exact ih_78 (m9 + 1) _ _ (by omega) (Or.inl ⟨hb3.1, hb3.2.1, by rw [hzz, hbe, ← hb3.2.2.1]; exact (Nat.min_eq_right (by omega)).symm, by omega⟩) (by omega) (by omega)
                              | exact ih_78 (m9 + 1) _ _ (by omega) (Or.inl ⟨hb3.1, hb3.2.1, by rw [hzz, hbe, ← hb3.2.2.1]; exact (Nat.min_eq_left (by omega)).symm, by omega⟩) (by omega) (by omega)
                            · skip
                              try simp (disch := omega) only [zk0, nI_leI, nI_ltI, nI_eq, zbk_notn, zbk_not, zbk_n0, zbk_0, zb_0, zb_n0, zb_not, zb_notn, Bool.not_eq_false, Bool.not_eq_true, Bool.not_eq_true', Bool.not_eq_false', decide_eq_true_eq, decide_eq_false_iff_not, Classical.not_not] at c_137
                              refine z_iload X dX9_reckons_140 rfl ?_
                              refine z_goto (tgt := 147) X dX9_reckons_142 (by decide) ?_
                              refine z_istore X dX9_reckons_147 (by decide) ?_
                              refine z_inc1 X dX9_reckons_149 rfl (by decide) ?_
                              refine z_goto (tgt := 78) X dX9_reckons_152 (by decide) ?_
                              have hzz := zLTm_s (B := 1000000) (nd := nd) (pl := fun i => zup (lt (dd i)) cd) (us := zusσ σ ne K vw nd) (p := p9) (n := n9) (m := m9)
                              first
                              | exact ih_78 (m9 + 1) _ _ (by omega) (Or.inl ⟨hb3.1, hb3.2.1, by rw [hzz, hbe, ← hb3.2.2.1]; exact (Nat.min_eq_right (by omega)).symm, by omega⟩) (by omega) (by omega)
                              | exact ih_78 (m9 + 1) _ _ (by omega) (Or.inl ⟨hb3.1, hb3.2.1, by rw [hzz, hbe, ← hb3.2.2.1]; exact (Nat.min_eq_left (by omega)).symm, by omega⟩) (by omega) (by omega)
                refine z_iconst (v := nI 1) X (by decide) dX9_reckons_75 ?_
                refine z_istore X dX9_reckons_76 (by decide) ?_
                exact loop_78 (4 - 0 + 1) 0 _ _ (Nat.zero_le _) hb0 hb02 (by omega)
              · skip
                try simp (disch := omega) only [zk0, nI_leI, nI_ltI, nI_eq, zbk_notn, zbk_not, zbk_n0, zbk_0, zb_0, zb_n0, zb_not, zb_notn, Bool.not_eq_false, Bool.not_eq_true, Bool.not_eq_true', Bool.not_eq_false', decide_eq_true_eq, decide_eq_false_iff_not, Classical.not_not] at c_35
                refine z_iload X dX9_reckons_38 rfl ?_
                refine z_if_ne (tgt := 47) X dX9_reckons_40 (by decide) (fun c_40 => ?_) (fun c_40 => ?_)
                · skip
                  try simp (disch := omega) only [zk0, nI_leI, nI_ltI, nI_eq, zbk_notn, zbk_not, zbk_n0, zbk_0, zb_0, zb_n0, zb_not, zb_notn, Bool.not_eq_false, Bool.not_eq_true, Bool.not_eq_true', Bool.not_eq_false', decide_eq_true_eq, decide_eq_false_iff_not, Classical.not_not] at c_40
                  refine z_ldc X qX9_217 dX9_reckons_47 ?_
                  refine z_goto (tgt := 73) X dX9_reckons_49 (by decide) ?_
                  try rw [zkM]
                  first
                  | (have hb0 : (p9 < nd ∧ 0 < n9 ∧ 0 = (zLTm 1000000 nd (fun i => zup (lt (dd i)) cd) (zusσ σ ne K vw nd)) p9 n9 0 ∧ 0 ≤ 4) ∨ (¬ (p9 < nd ∧ 0 < n9) ∧ min 1000000 0 = (zLT 1000000 nd (fun i => zup (lt (dd i)) cd) (zusσ σ ne K vw nd)) p9 n9) := Or.inr ⟨fun q => by omega, by rw [zLT_ge (by omega), if_pos c_40]; rfl⟩; have hb02 : 0 ≤ 1000020 := by omega)
                  | (have hb0 : (p9 < nd ∧ 0 < n9 ∧ 1000000 = (zLTm 1000000 nd (fun i => zup (lt (dd i)) cd) (zusσ σ ne K vw nd)) p9 n9 0 ∧ 0 ≤ 4) ∨ (¬ (p9 < nd ∧ 0 < n9) ∧ min 1000000 1000000 = (zLT 1000000 nd (fun i => zup (lt (dd i)) cd) (zusσ σ ne K vw nd)) p9 n9) := Or.inr ⟨fun q => by omega, by rw [zLT_ge (by omega), if_neg c_40]; rfl⟩; have hb02 : 1000000 ≤ 1000020 := by omega)
                  | (have hpn : p9 < nd := by omega
                     have hlp := (hdd p9 hpn).2
                     have hup := zup_le (a := lt (dd p9)) (b := cd) (by omega) (hlt _ hlp).2.1
                     have hl20 := (hlt _ hlp).2.2
                     have hbl : (zLT 1000000 nd (fun i => zup (lt (dd i)) cd) (zusσ σ ne K vw nd)) (p9 + 1) n9 ≤ 1000000 := zLT_le
                     have hb0 : (p9 < nd ∧ 0 < n9 ∧ zup (lt (dd p9)) cd + (zLT 1000000 nd (fun i => zup (lt (dd i)) cd) (zusσ σ ne K vw nd)) (p9 + 1) n9 = (zLTm 1000000 nd (fun i => zup (lt (dd i)) cd) (zusσ σ ne K vw nd)) p9 n9 0 ∧ 0 ≤ 4) ∨ (¬ (p9 < nd ∧ 0 < n9) ∧ min 1000000 (zup (lt (dd p9)) cd + (zLT 1000000 nd (fun i => zup (lt (dd i)) cd) (zusσ σ ne K vw nd)) (p9 + 1) n9) = (zLT 1000000 nd (fun i => zup (lt (dd i)) cd) (zusσ σ ne K vw nd)) p9 n9) := by
                       rcases Nat.eq_zero_or_pos n9 with h0 | h0
                       · refine Or.inr ⟨fun q => by omega, ?_⟩
                         have e0 : decide (0 < n9) = false := decide_eq_false (by omega)
                         rw [zLT_lt hpn, zLTm_s, zLTm_s, zLTm_s, zLTm_s, e0]
                         simp only [Bool.and_false, Bool.false_eq_true, if_false]
                         show min 1000000 _ = min 1000000 (min (min (min (min (zup (lt (dd p9)) cd + (zLT 1000000 nd (fun i => zup (lt (dd i)) cd) (zusσ σ ne K vw nd)) (p9 + 1) n9) 1000000) 1000000) 1000000) 1000000)
                         omega
                       · exact Or.inl ⟨hpn, h0, rfl, by omega⟩
                     have hb02 : zup (lt (dd p9)) cd + (zLT 1000000 nd (fun i => zup (lt (dd i)) cd) (zusσ σ ne K vw nd)) (p9 + 1) n9 ≤ 1000020 := by omega)
                  refine z_istore X dX9_reckons_73 (by decide) ?_
                  have loop_78 : ∀ (n : Nat) (m9 b9 : Nat) (v7 : Option Value) (hm5 : m9 ≤ 4) (hb : (p9 < nd ∧ 0 < n9 ∧ b9 = (zLTm 1000000 nd (fun i => zup (lt (dd i)) cd) (zusσ σ ne K vw nd)) p9 n9 m9 ∧ m9 ≤ 4) ∨ (¬ (p9 < nd ∧ 0 < n9) ∧ min 1000000 b9 = (zLT 1000000 nd (fun i => zup (lt (dd i)) cd) (zusσ σ ne K vw nd)) p9 n9)) (hb2 : b9 ≤ 1000020) (hn : 4 - m9 < n), z_V p l e (zRm MX9_reckons) s m args below meth c 8 D cy z0 0 0 (zQm MX9_reckons below D cy z0 (fun v g' σ' => v = none ∧ g' = g ∧ (∀ i, i ≠ 39 → σ' i = σ i) ∧ ∀ p n, p ≤ nd → n ≤ 24 → σ' 39 (25 * p + n) = nI ((zLT 1000000 nd (fun i => zup (lt (dd i)) cd) (zusσ σ ne K vw nd)) p n)) args s) 78 [some (.ref (g.2.1 21)), some (.int (nI o)), some (.int (nI cd)), some (.int (nI p9)), some (.int (nI n9)), some (.int (nI b9)), some (.int (nI (m9 + 1))), v7] [] g υ := by
                    intro n
                    induction n with
                    | zero => intro m9 b9 v7 hm5 hb hb2 hn; exact absurd hn (Nat.not_lt_zero _)
                    | succ n ih_78 =>
                      intro m9 b9 v7 hm5 hb hb2 hn
                      refine z_iload X dX9_reckons_78 rfl ?_
                      refine z_iconst (v := nI 5) X (by decide) dX9_reckons_80 ?_
                      refine z_icmp_ge (tgt := 155) X dX9_reckons_81 (by decide) (fun c_81 => ?_) (fun c_81 => ?_)
                      · skip
                        try simp (disch := omega) only [zk0, nI_leI, nI_ltI, nI_eq, zbk_notn, zbk_not, zbk_n0, zbk_0, zb_0, zb_n0, zb_not, zb_notn, Bool.not_eq_false, Bool.not_eq_true, Bool.not_eq_true', Bool.not_eq_false', decide_eq_true_eq, decide_eq_false_iff_not, Classical.not_not] at c_81
                        have hfin : min 1000000 b9 = (zLT 1000000 nd (fun i => zup (lt (dd i)) cd) (zusσ σ ne K vw nd)) p9 n9 := by rcases hb with ⟨q1, q2, q3, q4⟩ | ⟨-, q⟩; (have e4 : m9 = 4 := by omega); subst e4; rw [q3, zLT_lt q1]; exact q
                        refine z_aload_n X dX9_reckons_155 rfl ?_
                        refine z_getr2 X fX9_62 (zso_21 hS) (zsr_21_23 hS) rfl dX9_reckons_156 ?_
                        refine z_bipush (v := nI 25) X (by decide) dX9_reckons_159 ?_
                        refine z_iload_n X dX9_reckons_161 rfl ?_
                        refine z_imulN X dX9_reckons_162 ?_
                        refine z_iload X dX9_reckons_163 rfl ?_
                        refine z_iaddN X dX9_reckons_165 ?_
                        refine z_iload X dX9_reckons_166 rfl ?_
                        refine z_ldc X qX9_217 dX9_reckons_168 ?_
                        rw [zkM]
                        refine z_icmp_le (tgt := 178) X dX9_reckons_170 (by decide) (fun c_170 => ?_) (fun c_170 => ?_)
                        · skip
                          try simp (disch := omega) only [zk0, nI_leI, nI_ltI, nI_eq, zbk_notn, zbk_not, zbk_n0, zbk_0, zb_0, zb_n0, zb_not, zb_notn, Bool.not_eq_false, Bool.not_eq_true, Bool.not_eq_true', Bool.not_eq_false', decide_eq_true_eq, decide_eq_false_iff_not, Classical.not_not] at c_170
                          refine z_iload X dX9_reckons_178 rfl ?_
                          first | rw [show Value.int (nI b9) :: [Value.int (nI (25 * p9 + n9)), Value.ref (g.2.1 39)] = Value.int (nI ((zLT 1000000 nd (fun i => zup (lt (dd i)) cd) (zusσ σ ne K vw nd)) p9 n9)) :: [Value.int (nI (25 * p9 + n9)), Value.ref (g.2.1 39)] from by rw [← hfin, Nat.min_eq_right (a := 1000000) (b := b9) (by omega)]] | rw [show (1000000 : Int32) = nI ((zLT 1000000 nd (fun i => zup (lt (dd i)) cd) (zusσ σ ne K vw nd)) p9 n9) from by rw [← hfin, Nat.min_eq_left (a := 1000000) (b := b9) (by omega)]; rfl]
                          refine z_iastN X (zsa_39 hS) (by omega) (by omega) dX9_reckons_180 ?_
                          refine z_inc1 X dX9_reckons_181 rfl (by decide) ?_
                          refine z_goto (tgt := 23) X dX9_reckons_184 (by decide) ?_
                          refine ih_23 (n9 + 1) _ _ _ _ (by omega) (fun i hi => by rw [z_up_ne hi]; exact hF3 i hi) ⟨fun p h1 h2 n h3 => ?_, fun n h => ?_⟩ (by omega)
                          · rw [z_up_app, if_pos rfl, if_neg (by omega)]; exact hT2.1 p h1 h2 n h3
                          · rw [z_up_app, if_pos rfl]
                            by_cases e : n = n9
                            · subst e; rw [if_pos rfl]
                            · rw [if_neg (by omega)]; exact hT2.2 n (by omega)
                        · skip
                          try simp (disch := omega) only [zk0, nI_leI, nI_ltI, nI_eq, zbk_notn, zbk_not, zbk_n0, zbk_0, zb_0, zb_n0, zb_not, zb_notn, Bool.not_eq_false, Bool.not_eq_true, Bool.not_eq_true', Bool.not_eq_false', decide_eq_true_eq, decide_eq_false_iff_not, Classical.not_not] at c_170
                          refine z_ldc X qX9_217 dX9_reckons_173 ?_
                          refine z_goto (tgt := 180) X dX9_reckons_175 (by decide) ?_
                          first | rw [show Value.int (nI b9) :: [Value.int (nI (25 * p9 + n9)), Value.ref (g.2.1 39)] = Value.int (nI ((zLT 1000000 nd (fun i => zup (lt (dd i)) cd) (zusσ σ ne K vw nd)) p9 n9)) :: [Value.int (nI (25 * p9 + n9)), Value.ref (g.2.1 39)] from by rw [← hfin, Nat.min_eq_right (a := 1000000) (b := b9) (by omega)]] | rw [show (1000000 : Int32) = nI ((zLT 1000000 nd (fun i => zup (lt (dd i)) cd) (zusσ σ ne K vw nd)) p9 n9) from by rw [← hfin, Nat.min_eq_left (a := 1000000) (b := b9) (by omega)]; rfl]
                          refine z_iastN X (zsa_39 hS) (by omega) (by omega) dX9_reckons_180 ?_
                          refine z_inc1 X dX9_reckons_181 rfl (by decide) ?_
                          refine z_goto (tgt := 23) X dX9_reckons_184 (by decide) ?_
                          refine ih_23 (n9 + 1) _ _ _ _ (by omega) (fun i hi => by rw [z_up_ne hi]; exact hF3 i hi) ⟨fun p h1 h2 n h3 => ?_, fun n h => ?_⟩ (by omega)
                          · rw [z_up_app, if_pos rfl, if_neg (by omega)]; exact hT2.1 p h1 h2 n h3
                          · rw [z_up_app, if_pos rfl]
                            by_cases e : n = n9
                            · subst e; rw [if_pos rfl]
                            · rw [if_neg (by omega)]; exact hT2.2 n (by omega)
                      · skip
                        try simp (disch := omega) only [zk0, nI_leI, nI_ltI, nI_eq, zbk_notn, zbk_not, zbk_n0, zbk_0, zb_0, zb_n0, zb_not, zb_notn, Bool.not_eq_false, Bool.not_eq_true, Bool.not_eq_true', Bool.not_eq_false', decide_eq_true_eq, decide_eq_false_iff_not, Classical.not_not] at c_81
                        refine z_iload_n X dX9_reckons_84 rfl ?_
                        refine z_aload_n X dX9_reckons_85 rfl ?_
                        refine z_geti X fX9_202 (zso_21 hS) rfl dX9_reckons_86 ?_
                        rw [hndυ]
                        refine z_icmp_ge (tgt := 155) X dX9_reckons_89 (by decide) (fun c_89 => ?_) (fun c_89 => ?_)
                        · skip
                          try simp (disch := omega) only [zk0, nI_leI, nI_ltI, nI_eq, zbk_notn, zbk_not, zbk_n0, zbk_0, zb_0, zb_n0, zb_not, zb_notn, Bool.not_eq_false, Bool.not_eq_true, Bool.not_eq_true', Bool.not_eq_false', decide_eq_true_eq, decide_eq_false_iff_not, Classical.not_not] at c_89
                          have hfin : min 1000000 b9 = (zLT 1000000 nd (fun i => zup (lt (dd i)) cd) (zusσ σ ne K vw nd)) p9 n9 := by rcases hb with ⟨q1, q2, q3, q4⟩ | ⟨-, q⟩; (have e4 : m9 = 4 := by omega); subst e4; rw [q3, zLT_lt q1]; exact q
                          refine z_aload_n X dX9_reckons_155 rfl ?_
                          refine z_getr2 X fX9_62 (zso_21 hS) (zsr_21_23 hS) rfl dX9_reckons_156 ?_
                          refine z_bipush (v := nI 25) X (by decide) dX9_reckons_159 ?_
                          refine z_iload_n X dX9_reckons_161 rfl ?_
                          refine z_imulN X dX9_reckons_162 ?_
                          refine z_iload X dX9_reckons_163 rfl ?_
                          refine z_iaddN X dX9_reckons_165 ?_
                          refine z_iload X dX9_reckons_166 rfl ?_
                          refine z_ldc X qX9_217 dX9_reckons_168 ?_
                          rw [zkM]
                          refine z_icmp_le (tgt := 178) X dX9_reckons_170 (by decide) (fun c_170 => ?_) (fun c_170 => ?_)
                          · skip
                            try simp (disch := omega) only [zk0, nI_leI, nI_ltI, nI_eq, zbk_notn, zbk_not, zbk_n0, zbk_0, zb_0, zb_n0, zb_not, zb_notn, Bool.not_eq_false, Bool.not_eq_true, Bool.not_eq_true', Bool.not_eq_false', decide_eq_true_eq, decide_eq_false_iff_not, Classical.not_not] at c_170
                            refine z_iload X dX9_reckons_178 rfl ?_
                            first | rw [show Value.int (nI b9) :: [Value.int (nI (25 * p9 + n9)), Value.ref (g.2.1 39)] = Value.int (nI ((zLT 1000000 nd (fun i => zup (lt (dd i)) cd) (zusσ σ ne K vw nd)) p9 n9)) :: [Value.int (nI (25 * p9 + n9)), Value.ref (g.2.1 39)] from by rw [← hfin, Nat.min_eq_right (a := 1000000) (b := b9) (by omega)]] | rw [show (1000000 : Int32) = nI ((zLT 1000000 nd (fun i => zup (lt (dd i)) cd) (zusσ σ ne K vw nd)) p9 n9) from by rw [← hfin, Nat.min_eq_left (a := 1000000) (b := b9) (by omega)]; rfl]
                            refine z_iastN X (zsa_39 hS) (by omega) (by omega) dX9_reckons_180 ?_
                            refine z_inc1 X dX9_reckons_181 rfl (by decide) ?_
                            refine z_goto (tgt := 23) X dX9_reckons_184 (by decide) ?_
                            refine ih_23 (n9 + 1) _ _ _ _ (by omega) (fun i hi => by rw [z_up_ne hi]; exact hF3 i hi) ⟨fun p h1 h2 n h3 => ?_, fun n h => ?_⟩ (by omega)
                            · rw [z_up_app, if_pos rfl, if_neg (by omega)]; exact hT2.1 p h1 h2 n h3
                            · rw [z_up_app, if_pos rfl]
                              by_cases e : n = n9
                              · subst e; rw [if_pos rfl]
                              · rw [if_neg (by omega)]; exact hT2.2 n (by omega)
                          · skip
                            try simp (disch := omega) only [zk0, nI_leI, nI_ltI, nI_eq, zbk_notn, zbk_not, zbk_n0, zbk_0, zb_0, zb_n0, zb_not, zb_notn, Bool.not_eq_false, Bool.not_eq_true, Bool.not_eq_true', Bool.not_eq_false', decide_eq_true_eq, decide_eq_false_iff_not, Classical.not_not] at c_170
                            refine z_ldc X qX9_217 dX9_reckons_173 ?_
                            refine z_goto (tgt := 180) X dX9_reckons_175 (by decide) ?_
                            first | rw [show Value.int (nI b9) :: [Value.int (nI (25 * p9 + n9)), Value.ref (g.2.1 39)] = Value.int (nI ((zLT 1000000 nd (fun i => zup (lt (dd i)) cd) (zusσ σ ne K vw nd)) p9 n9)) :: [Value.int (nI (25 * p9 + n9)), Value.ref (g.2.1 39)] from by rw [← hfin, Nat.min_eq_right (a := 1000000) (b := b9) (by omega)]] | rw [show (1000000 : Int32) = nI ((zLT 1000000 nd (fun i => zup (lt (dd i)) cd) (zusσ σ ne K vw nd)) p9 n9) from by rw [← hfin, Nat.min_eq_left (a := 1000000) (b := b9) (by omega)]; rfl]
                            refine z_iastN X (zsa_39 hS) (by omega) (by omega) dX9_reckons_180 ?_
                            refine z_inc1 X dX9_reckons_181 rfl (by decide) ?_
                            refine z_goto (tgt := 23) X dX9_reckons_184 (by decide) ?_
                            refine ih_23 (n9 + 1) _ _ _ _ (by omega) (fun i hi => by rw [z_up_ne hi]; exact hF3 i hi) ⟨fun p h1 h2 n h3 => ?_, fun n h => ?_⟩ (by omega)
                            · rw [z_up_app, if_pos rfl, if_neg (by omega)]; exact hT2.1 p h1 h2 n h3
                            · rw [z_up_app, if_pos rfl]
                              by_cases e : n = n9
                              · subst e; rw [if_pos rfl]
                              · rw [if_neg (by omega)]; exact hT2.2 n (by omega)
                        · skip
                          try simp (disch := omega) only [zk0, nI_leI, nI_ltI, nI_eq, zbk_notn, zbk_not, zbk_n0, zbk_0, zb_0, zb_n0, zb_not, zb_notn, Bool.not_eq_false, Bool.not_eq_true, Bool.not_eq_true', Bool.not_eq_false', decide_eq_true_eq, decide_eq_false_iff_not, Classical.not_not] at c_89
                          refine z_iload X dX9_reckons_92 rfl ?_
                          refine z_if_le (tgt := 155) X dX9_reckons_94 (by decide) (fun c_94 => ?_) (fun c_94 => ?_)
                          · skip
                            try simp (disch := omega) only [zk0, nI_leI, nI_ltI, nI_eq, zbk_notn, zbk_not, zbk_n0, zbk_0, zb_0, zb_n0, zb_not, zb_notn, Bool.not_eq_false, Bool.not_eq_true, Bool.not_eq_true', Bool.not_eq_false', decide_eq_true_eq, decide_eq_false_iff_not, Classical.not_not] at c_94
                            have hfin : min 1000000 b9 = (zLT 1000000 nd (fun i => zup (lt (dd i)) cd) (zusσ σ ne K vw nd)) p9 n9 := by rcases hb with ⟨q1, q2, q3, q4⟩ | ⟨-, q⟩; (have e4 : m9 = 4 := by omega); subst e4; rw [q3, zLT_lt q1]; exact q
                            refine z_aload_n X dX9_reckons_155 rfl ?_
                            refine z_getr2 X fX9_62 (zso_21 hS) (zsr_21_23 hS) rfl dX9_reckons_156 ?_
                            refine z_bipush (v := nI 25) X (by decide) dX9_reckons_159 ?_
                            refine z_iload_n X dX9_reckons_161 rfl ?_
                            refine z_imulN X dX9_reckons_162 ?_
                            refine z_iload X dX9_reckons_163 rfl ?_
                            refine z_iaddN X dX9_reckons_165 ?_
                            refine z_iload X dX9_reckons_166 rfl ?_
                            refine z_ldc X qX9_217 dX9_reckons_168 ?_
                            rw [zkM]
                            refine z_icmp_le (tgt := 178) X dX9_reckons_170 (by decide) (fun c_170 => ?_) (fun c_170 => ?_)
                            · skip
                              try simp (disch := omega) only [zk0, nI_leI, nI_ltI, nI_eq, zbk_notn, zbk_not, zbk_n0, zbk_0, zb_0, zb_n0, zb_not, zb_notn, Bool.not_eq_false, Bool.not_eq_true, Bool.not_eq_true', Bool.not_eq_false', decide_eq_true_eq, decide_eq_false_iff_not, Classical.not_not] at c_170
                              refine z_iload X dX9_reckons_178 rfl ?_
                              first | rw [show Value.int (nI b9) :: [Value.int (nI (25 * p9 + n9)), Value.ref (g.2.1 39)] = Value.int (nI ((zLT 1000000 nd (fun i => zup (lt (dd i)) cd) (zusσ σ ne K vw nd)) p9 n9)) :: [Value.int (nI (25 * p9 + n9)), Value.ref (g.2.1 39)] from by rw [← hfin, Nat.min_eq_right (a := 1000000) (b := b9) (by omega)]] | rw [show (1000000 : Int32) = nI ((zLT 1000000 nd (fun i => zup (lt (dd i)) cd) (zusσ σ ne K vw nd)) p9 n9) from by rw [← hfin, Nat.min_eq_left (a := 1000000) (b := b9) (by omega)]; rfl]
                              refine z_iastN X (zsa_39 hS) (by omega) (by omega) dX9_reckons_180 ?_
                              refine z_inc1 X dX9_reckons_181 rfl (by decide) ?_
                              refine z_goto (tgt := 23) X dX9_reckons_184 (by decide) ?_
                              refine ih_23 (n9 + 1) _ _ _ _ (by omega) (fun i hi => by rw [z_up_ne hi]; exact hF3 i hi) ⟨fun p h1 h2 n h3 => ?_, fun n h => ?_⟩ (by omega)
                              · rw [z_up_app, if_pos rfl, if_neg (by omega)]; exact hT2.1 p h1 h2 n h3
                              · rw [z_up_app, if_pos rfl]
                                by_cases e : n = n9
                                · subst e; rw [if_pos rfl]
                                · rw [if_neg (by omega)]; exact hT2.2 n (by omega)
                            · skip
                              try simp (disch := omega) only [zk0, nI_leI, nI_ltI, nI_eq, zbk_notn, zbk_not, zbk_n0, zbk_0, zb_0, zb_n0, zb_not, zb_notn, Bool.not_eq_false, Bool.not_eq_true, Bool.not_eq_true', Bool.not_eq_false', decide_eq_true_eq, decide_eq_false_iff_not, Classical.not_not] at c_170
                              refine z_ldc X qX9_217 dX9_reckons_173 ?_
                              refine z_goto (tgt := 180) X dX9_reckons_175 (by decide) ?_
                              first | rw [show Value.int (nI b9) :: [Value.int (nI (25 * p9 + n9)), Value.ref (g.2.1 39)] = Value.int (nI ((zLT 1000000 nd (fun i => zup (lt (dd i)) cd) (zusσ σ ne K vw nd)) p9 n9)) :: [Value.int (nI (25 * p9 + n9)), Value.ref (g.2.1 39)] from by rw [← hfin, Nat.min_eq_right (a := 1000000) (b := b9) (by omega)]] | rw [show (1000000 : Int32) = nI ((zLT 1000000 nd (fun i => zup (lt (dd i)) cd) (zusσ σ ne K vw nd)) p9 n9) from by rw [← hfin, Nat.min_eq_left (a := 1000000) (b := b9) (by omega)]; rfl]
                              refine z_iastN X (zsa_39 hS) (by omega) (by omega) dX9_reckons_180 ?_
                              refine z_inc1 X dX9_reckons_181 rfl (by decide) ?_
                              refine z_goto (tgt := 23) X dX9_reckons_184 (by decide) ?_
                              refine ih_23 (n9 + 1) _ _ _ _ (by omega) (fun i hi => by rw [z_up_ne hi]; exact hF3 i hi) ⟨fun p h1 h2 n h3 => ?_, fun n h => ?_⟩ (by omega)
                              · rw [z_up_app, if_pos rfl, if_neg (by omega)]; exact hT2.1 p h1 h2 n h3
                              · rw [z_up_app, if_pos rfl]
                                by_cases e : n = n9
                                · subst e; rw [if_pos rfl]
                                · rw [if_neg (by omega)]; exact hT2.2 n (by omega)
                          · skip
                            try simp (disch := omega) only [zk0, nI_leI, nI_ltI, nI_eq, zbk_notn, zbk_not, zbk_n0, zbk_0, zb_0, zb_n0, zb_not, zb_notn, Bool.not_eq_false, Bool.not_eq_true, Bool.not_eq_true', Bool.not_eq_false', decide_eq_true_eq, decide_eq_false_iff_not, Classical.not_not] at c_94
                            have hb3 : p9 < nd ∧ 0 < n9 ∧ b9 = (zLTm 1000000 nd (fun i => zup (lt (dd i)) cd) (zusσ σ ne K vw nd)) p9 n9 m9 ∧ m9 ≤ 4 := by rcases hb with q | ⟨q, -⟩; exact q; exact absurd ⟨by omega, by omega⟩ q
                            refine z_aload_n X dX9_reckons_97 rfl ?_
                            refine z_iload_n X dX9_reckons_98 rfl ?_
                            refine z_iload X dX9_reckons_99 rfl ?_
                            refine z_iload_n X dX9_reckons_101 rfl ?_
                            refine z_runV X kX9_218 (tX9_entryAt (o := o) p9 (m9 + 1) hS hPυ (by omega) (by omega) (by omega)) (zso_21 hS) rfl rfl (Nat.le_of_ble_eq_true rfl) ⟨by decide, by decide⟩ ⟨by decide, by decide⟩ dX9_reckons_102 ?_
                            rintro _ g1 s1 ⟨r9, rfl, h8, h9, hr⟩
                            replace h8 := h8.symm
                            subst h8
                            replace h9 := h9.symm
                            subst h9
                            have hr1 := zen_e hF2 hr
                            have hr2 := zen_1 he2 hr1
                            refine z_iconst (v := -1) X (by decide) dX9_reckons_105 ?_
                            refine z_icmp_ne (tgt := 114) X dX9_reckons_106 (by decide) (fun c_106 => ?_) (fun c_106 => ?_)
                            · skip
                              have hbe : (if zusσ σ ne K vw nd p9 (m9 + 1) && decide (0 < n9) then (zLT 1000000 nd (fun i => zup (lt (dd i)) cd) (zusσ σ ne K vw nd)) (p9 + (m9 + 1)) (n9 - 1) else 1000000) = (zLT 1000000 nd (fun i => zup (lt (dd i)) cd) (zusσ σ ne K vw nd)) (p9 + (m9 + 1)) (n9 - 1) := by rcases hr2 with ⟨q, -⟩ | ⟨-, q⟩; exact absurd q c_106; rw [q, decide_eq_true hb3.2.1]; rfl
                              have hpm : p9 + (m9 + 1) ≤ nd := by rcases hr2 with ⟨q, -⟩ | ⟨-, q⟩; exact absurd q c_106; exact (zus_t.mp q).1
                              have hbl : (zLT 1000000 nd (fun i => zup (lt (dd i)) cd) (zusσ σ ne K vw nd)) (p9 + (m9 + 1)) (n9 - 1) ≤ 1000000 := zLT_le
                              refine z_aload_n X dX9_reckons_114 rfl ?_
                              refine z_getr2 X fX9_62 (zso_21 hS) (zsr_21_23 hS) rfl dX9_reckons_115 ?_
                              refine z_bipush (v := nI 25) X (by decide) dX9_reckons_118 ?_
                              refine z_iload_n X dX9_reckons_120 rfl ?_
                              refine z_iload X dX9_reckons_121 rfl ?_
                              refine z_iaddN X dX9_reckons_123 ?_
                              refine z_imulN X dX9_reckons_124 ?_
                              refine z_iload X dX9_reckons_125 rfl ?_
                              refine z_iaddN X dX9_reckons_127 ?_
                              refine z_iconst (v := nI 1) X (by decide) dX9_reckons_128 ?_
                              refine z_isubN X (by omega) dX9_reckons_129 ?_
                              refine z_ialdN X (zsa_39 hS) (by omega) (by omega) dX9_reckons_130 ?_
                              first | rw [zkM] | (rw [show 25 * (p9 + (m9 + 1)) + n9 - 1 = 25 * (p9 + (m9 + 1)) + (n9 - 1) by omega, hT2.1 (p9 + (m9 + 1)) (by omega) hpm (n9 - 1) (by omega)])
                              refine z_istore X dX9_reckons_131 (by decide) ?_
                              refine z_iload X dX9_reckons_133 rfl ?_
                              refine z_iload X dX9_reckons_135 rfl ?_
                              refine z_icmp_ge (tgt := 145) X dX9_reckons_137 (by decide) (fun c_137 => ?_) (fun c_137 => ?_)
                              · skip
                                try simp (disch := omega) only [zk0, nI_leI, nI_ltI, nI_eq, zbk_notn, zbk_not, zbk_n0, zbk_0, zb_0, zb_n0, zb_not, zb_notn, Bool.not_eq_false, Bool.not_eq_true, Bool.not_eq_true', Bool.not_eq_false', decide_eq_true_eq, decide_eq_false_iff_not, Classical.not_not] at c_137
                                refine z_iload X dX9_reckons_145 rfl ?_
                                refine z_istore X dX9_reckons_147 (by decide) ?_
                                refine z_inc1 X dX9_reckons_149 rfl (by decide) ?_
                                refine z_goto (tgt := 78) X dX9_reckons_152 (by decide) ?_
                                have hzz := zLTm_s (B := 1000000) (nd := nd) (pl := fun i => zup (lt (dd i)) cd) (us := zusσ σ ne K vw nd) (p := p9) (n := n9) (m := m9)
                                first
                                | exact ih_78 (m9 + 1) _ _ (by omega) (Or.inl ⟨hb3.1, hb3.2.1, by rw [hzz, hbe, ← hb3.2.2.1]; exact (Nat.min_eq_right (by omega)).symm, by omega⟩) (by omega) (by omega)
                                | exact ih_78 (m9 + 1) _ _ (by omega) (Or.inl ⟨hb3.1, hb3.2.1, by rw [hzz, hbe, ← hb3.2.2.1]; exact (Nat.min_eq_left (by omega)).symm, by omega⟩) (by omega) (by omega)
                              · skip
                                try simp (disch := omega) only [zk0, nI_leI, nI_ltI, nI_eq, zbk_notn, zbk_not, zbk_n0, zbk_0, zb_0, zb_n0, zb_not, zb_notn, Bool.not_eq_false, Bool.not_eq_true, Bool.not_eq_true', Bool.not_eq_false', decide_eq_true_eq, decide_eq_false_iff_not, Classical.not_not] at c_137
                                refine z_iload X dX9_reckons_140 rfl ?_
                                refine z_goto (tgt := 147) X dX9_reckons_142 (by decide) ?_
                                refine z_istore X dX9_reckons_147 (by decide) ?_
                                refine z_inc1 X dX9_reckons_149 rfl (by decide) ?_
                                refine z_goto (tgt := 78) X dX9_reckons_152 (by decide) ?_
                                have hzz := zLTm_s (B := 1000000) (nd := nd) (pl := fun i => zup (lt (dd i)) cd) (us := zusσ σ ne K vw nd) (p := p9) (n := n9) (m := m9)
                                first
                                | exact ih_78 (m9 + 1) _ _ (by omega) (Or.inl ⟨hb3.1, hb3.2.1, by rw [hzz, hbe, ← hb3.2.2.1]; exact (Nat.min_eq_right (by omega)).symm, by omega⟩) (by omega) (by omega)
                                | exact ih_78 (m9 + 1) _ _ (by omega) (Or.inl ⟨hb3.1, hb3.2.1, by rw [hzz, hbe, ← hb3.2.2.1]; exact (Nat.min_eq_left (by omega)).symm, by omega⟩) (by omega) (by omega)
                            · skip
                              have hbe : (if zusσ σ ne K vw nd p9 (m9 + 1) && decide (0 < n9) then (zLT 1000000 nd (fun i => zup (lt (dd i)) cd) (zusσ σ ne K vw nd)) (p9 + (m9 + 1)) (n9 - 1) else 1000000) = 1000000 := by rcases hr2 with ⟨-, q⟩ | ⟨q, -⟩; rw [q]; rfl; exact absurd c_106 q
                              have hbl : 1000000 ≤ 1000000 := Nat.le_refl _
                              refine z_ldc X qX9_217 dX9_reckons_109 ?_
                              refine z_goto (tgt := 131) X dX9_reckons_111 (by decide) ?_
                              first | rw [zkM] | (rw [show 25 * (p9 + (m9 + 1)) + n9 - 1 = 25 * (p9 + (m9 + 1)) + (n9 - 1) by omega, hT2.1 (p9 + (m9 + 1)) (by omega) hpm (n9 - 1) (by omega)])
                              refine z_istore X dX9_reckons_131 (by decide) ?_
                              refine z_iload X dX9_reckons_133 rfl ?_
                              refine z_iload X dX9_reckons_135 rfl ?_
                              refine z_icmp_ge (tgt := 145) X dX9_reckons_137 (by decide) (fun c_137 => ?_) (fun c_137 => ?_)
                              · skip
                                try simp (disch := omega) only [zk0, nI_leI, nI_ltI, nI_eq, zbk_notn, zbk_not, zbk_n0, zbk_0, zb_0, zb_n0, zb_not, zb_notn, Bool.not_eq_false, Bool.not_eq_true, Bool.not_eq_true', Bool.not_eq_false', decide_eq_true_eq, decide_eq_false_iff_not, Classical.not_not] at c_137
                                refine z_iload X dX9_reckons_145 rfl ?_
                                refine z_istore X dX9_reckons_147 (by decide) ?_
                                refine z_inc1 X dX9_reckons_149 rfl (by decide) ?_
                                refine z_goto (tgt := 78) X dX9_reckons_152 (by decide) ?_
                                have hzz := zLTm_s (B := 1000000) (nd := nd) (pl := fun i => zup (lt (dd i)) cd) (us := zusσ σ ne K vw nd) (p := p9) (n := n9) (m := m9)
                                first
                                | exact ih_78 (m9 + 1) _ _ (by omega) (Or.inl ⟨hb3.1, hb3.2.1, by rw [hzz, hbe, ← hb3.2.2.1]; exact (Nat.min_eq_right (by omega)).symm, by omega⟩) (by omega) (by omega)
                                | exact ih_78 (m9 + 1) _ _ (by omega) (Or.inl ⟨hb3.1, hb3.2.1, by rw [hzz, hbe, ← hb3.2.2.1]; exact (Nat.min_eq_left (by omega)).symm, by omega⟩) (by omega) (by omega)
                              · skip
                                try simp (disch := omega) only [zk0, nI_leI, nI_ltI, nI_eq, zbk_notn, zbk_not, zbk_n0, zbk_0, zb_0, zb_n0, zb_not, zb_notn, Bool.not_eq_false, Bool.not_eq_true, Bool.not_eq_true', Bool.not_eq_false', decide_eq_true_eq, decide_eq_false_iff_not, Classical.not_not] at c_137
                                refine z_iload X dX9_reckons_140 rfl ?_
                                refine z_goto (tgt := 147) X dX9_reckons_142 (by decide) ?_
                                refine z_istore X dX9_reckons_147 (by decide) ?_
                                refine z_inc1 X dX9_reckons_149 rfl (by decide) ?_
                                refine z_goto (tgt := 78) X dX9_reckons_152 (by decide) ?_
                                have hzz := zLTm_s (B := 1000000) (nd := nd) (pl := fun i => zup (lt (dd i)) cd) (us := zusσ σ ne K vw nd) (p := p9) (n := n9) (m := m9)
                                first
                                | exact ih_78 (m9 + 1) _ _ (by omega) (Or.inl ⟨hb3.1, hb3.2.1, by rw [hzz, hbe, ← hb3.2.2.1]; exact (Nat.min_eq_right (by omega)).symm, by omega⟩) (by omega) (by omega)
                                | exact ih_78 (m9 + 1) _ _ (by omega) (Or.inl ⟨hb3.1, hb3.2.1, by rw [hzz, hbe, ← hb3.2.2.1]; exact (Nat.min_eq_left (by omega)).symm, by omega⟩) (by omega) (by omega)
                  refine z_iconst (v := nI 1) X (by decide) dX9_reckons_75 ?_
                  refine z_istore X dX9_reckons_76 (by decide) ?_
                  exact loop_78 (4 - 0 + 1) 0 _ _ (Nat.zero_le _) hb0 hb02 (by omega)
                · skip
                  try simp (disch := omega) only [zk0, nI_leI, nI_ltI, nI_eq, zbk_notn, zbk_not, zbk_n0, zbk_0, zb_0, zb_n0, zb_not, zb_notn, Bool.not_eq_false, Bool.not_eq_true, Bool.not_eq_true', Bool.not_eq_false', decide_eq_true_eq, decide_eq_false_iff_not, Classical.not_not] at c_40
                  refine z_iconst (v := nI 0) X (by decide) dX9_reckons_43 ?_
                  refine z_goto (tgt := 73) X dX9_reckons_44 (by decide) ?_
                  try rw [zkM]
                  first
                  | (have hb0 : (p9 < nd ∧ 0 < n9 ∧ 0 = (zLTm 1000000 nd (fun i => zup (lt (dd i)) cd) (zusσ σ ne K vw nd)) p9 n9 0 ∧ 0 ≤ 4) ∨ (¬ (p9 < nd ∧ 0 < n9) ∧ min 1000000 0 = (zLT 1000000 nd (fun i => zup (lt (dd i)) cd) (zusσ σ ne K vw nd)) p9 n9) := Or.inr ⟨fun q => by omega, by rw [zLT_ge (by omega), if_pos c_40]; rfl⟩; have hb02 : 0 ≤ 1000020 := by omega)
                  | (have hb0 : (p9 < nd ∧ 0 < n9 ∧ 1000000 = (zLTm 1000000 nd (fun i => zup (lt (dd i)) cd) (zusσ σ ne K vw nd)) p9 n9 0 ∧ 0 ≤ 4) ∨ (¬ (p9 < nd ∧ 0 < n9) ∧ min 1000000 1000000 = (zLT 1000000 nd (fun i => zup (lt (dd i)) cd) (zusσ σ ne K vw nd)) p9 n9) := Or.inr ⟨fun q => by omega, by rw [zLT_ge (by omega), if_neg c_40]; rfl⟩; have hb02 : 1000000 ≤ 1000020 := by omega)
                  | (have hpn : p9 < nd := by omega
                     have hlp := (hdd p9 hpn).2
                     have hup := zup_le (a := lt (dd p9)) (b := cd) (by omega) (hlt _ hlp).2.1
                     have hl20 := (hlt _ hlp).2.2
                     have hbl : (zLT 1000000 nd (fun i => zup (lt (dd i)) cd) (zusσ σ ne K vw nd)) (p9 + 1) n9 ≤ 1000000 := zLT_le
                     have hb0 : (p9 < nd ∧ 0 < n9 ∧ zup (lt (dd p9)) cd + (zLT 1000000 nd (fun i => zup (lt (dd i)) cd) (zusσ σ ne K vw nd)) (p9 + 1) n9 = (zLTm 1000000 nd (fun i => zup (lt (dd i)) cd) (zusσ σ ne K vw nd)) p9 n9 0 ∧ 0 ≤ 4) ∨ (¬ (p9 < nd ∧ 0 < n9) ∧ min 1000000 (zup (lt (dd p9)) cd + (zLT 1000000 nd (fun i => zup (lt (dd i)) cd) (zusσ σ ne K vw nd)) (p9 + 1) n9) = (zLT 1000000 nd (fun i => zup (lt (dd i)) cd) (zusσ σ ne K vw nd)) p9 n9) := by
                       rcases Nat.eq_zero_or_pos n9 with h0 | h0
                       · refine Or.inr ⟨fun q => by omega, ?_⟩
                         have e0 : decide (0 < n9) = false := decide_eq_false (by omega)
                         rw [zLT_lt hpn, zLTm_s, zLTm_s, zLTm_s, zLTm_s, e0]
                         simp only [Bool.and_false, Bool.false_eq_true, if_false]
                         show min 1000000 _ = min 1000000 (min (min (min (min (zup (lt (dd p9)) cd + (zLT 1000000 nd (fun i => zup (lt (dd i)) cd) (zusσ σ ne K vw nd)) (p9 + 1) n9) 1000000) 1000000) 1000000) 1000000)
                         omega
                       · exact Or.inl ⟨hpn, h0, rfl, by omega⟩
                     have hb02 : zup (lt (dd p9)) cd + (zLT 1000000 nd (fun i => zup (lt (dd i)) cd) (zusσ σ ne K vw nd)) (p9 + 1) n9 ≤ 1000020 := by omega)
                  refine z_istore X dX9_reckons_73 (by decide) ?_
                  have loop_78 : ∀ (n : Nat) (m9 b9 : Nat) (v7 : Option Value) (hm5 : m9 ≤ 4) (hb : (p9 < nd ∧ 0 < n9 ∧ b9 = (zLTm 1000000 nd (fun i => zup (lt (dd i)) cd) (zusσ σ ne K vw nd)) p9 n9 m9 ∧ m9 ≤ 4) ∨ (¬ (p9 < nd ∧ 0 < n9) ∧ min 1000000 b9 = (zLT 1000000 nd (fun i => zup (lt (dd i)) cd) (zusσ σ ne K vw nd)) p9 n9)) (hb2 : b9 ≤ 1000020) (hn : 4 - m9 < n), z_V p l e (zRm MX9_reckons) s m args below meth c 8 D cy z0 0 0 (zQm MX9_reckons below D cy z0 (fun v g' σ' => v = none ∧ g' = g ∧ (∀ i, i ≠ 39 → σ' i = σ i) ∧ ∀ p n, p ≤ nd → n ≤ 24 → σ' 39 (25 * p + n) = nI ((zLT 1000000 nd (fun i => zup (lt (dd i)) cd) (zusσ σ ne K vw nd)) p n)) args s) 78 [some (.ref (g.2.1 21)), some (.int (nI o)), some (.int (nI cd)), some (.int (nI p9)), some (.int (nI n9)), some (.int (nI b9)), some (.int (nI (m9 + 1))), v7] [] g υ := by
                    intro n
                    induction n with
                    | zero => intro m9 b9 v7 hm5 hb hb2 hn; exact absurd hn (Nat.not_lt_zero _)
                    | succ n ih_78 =>
                      intro m9 b9 v7 hm5 hb hb2 hn
                      refine z_iload X dX9_reckons_78 rfl ?_
                      refine z_iconst (v := nI 5) X (by decide) dX9_reckons_80 ?_
                      refine z_icmp_ge (tgt := 155) X dX9_reckons_81 (by decide) (fun c_81 => ?_) (fun c_81 => ?_)
                      · skip
                        try simp (disch := omega) only [zk0, nI_leI, nI_ltI, nI_eq, zbk_notn, zbk_not, zbk_n0, zbk_0, zb_0, zb_n0, zb_not, zb_notn, Bool.not_eq_false, Bool.not_eq_true, Bool.not_eq_true', Bool.not_eq_false', decide_eq_true_eq, decide_eq_false_iff_not, Classical.not_not] at c_81
                        have hfin : min 1000000 b9 = (zLT 1000000 nd (fun i => zup (lt (dd i)) cd) (zusσ σ ne K vw nd)) p9 n9 := by rcases hb with ⟨q1, q2, q3, q4⟩ | ⟨-, q⟩; (have e4 : m9 = 4 := by omega); subst e4; rw [q3, zLT_lt q1]; exact q
                        refine z_aload_n X dX9_reckons_155 rfl ?_
                        refine z_getr2 X fX9_62 (zso_21 hS) (zsr_21_23 hS) rfl dX9_reckons_156 ?_
                        refine z_bipush (v := nI 25) X (by decide) dX9_reckons_159 ?_
                        refine z_iload_n X dX9_reckons_161 rfl ?_
                        refine z_imulN X dX9_reckons_162 ?_
                        refine z_iload X dX9_reckons_163 rfl ?_
                        refine z_iaddN X dX9_reckons_165 ?_
                        refine z_iload X dX9_reckons_166 rfl ?_
                        refine z_ldc X qX9_217 dX9_reckons_168 ?_
                        rw [zkM]
                        refine z_icmp_le (tgt := 178) X dX9_reckons_170 (by decide) (fun c_170 => ?_) (fun c_170 => ?_)
                        · skip
                          try simp (disch := omega) only [zk0, nI_leI, nI_ltI, nI_eq, zbk_notn, zbk_not, zbk_n0, zbk_0, zb_0, zb_n0, zb_not, zb_notn, Bool.not_eq_false, Bool.not_eq_true, Bool.not_eq_true', Bool.not_eq_false', decide_eq_true_eq, decide_eq_false_iff_not, Classical.not_not] at c_170
                          refine z_iload X dX9_reckons_178 rfl ?_
                          first | rw [show Value.int (nI b9) :: [Value.int (nI (25 * p9 + n9)), Value.ref (g.2.1 39)] = Value.int (nI ((zLT 1000000 nd (fun i => zup (lt (dd i)) cd) (zusσ σ ne K vw nd)) p9 n9)) :: [Value.int (nI (25 * p9 + n9)), Value.ref (g.2.1 39)] from by rw [← hfin, Nat.min_eq_right (a := 1000000) (b := b9) (by omega)]] | rw [show (1000000 : Int32) = nI ((zLT 1000000 nd (fun i => zup (lt (dd i)) cd) (zusσ σ ne K vw nd)) p9 n9) from by rw [← hfin, Nat.min_eq_left (a := 1000000) (b := b9) (by omega)]; rfl]
                          refine z_iastN X (zsa_39 hS) (by omega) (by omega) dX9_reckons_180 ?_
                          refine z_inc1 X dX9_reckons_181 rfl (by decide) ?_
                          refine z_goto (tgt := 23) X dX9_reckons_184 (by decide) ?_
                          refine ih_23 (n9 + 1) _ _ _ _ (by omega) (fun i hi => by rw [z_up_ne hi]; exact hF3 i hi) ⟨fun p h1 h2 n h3 => ?_, fun n h => ?_⟩ (by omega)
                          · rw [z_up_app, if_pos rfl, if_neg (by omega)]; exact hT2.1 p h1 h2 n h3
                          · rw [z_up_app, if_pos rfl]
                            by_cases e : n = n9
                            · subst e; rw [if_pos rfl]
                            · rw [if_neg (by omega)]; exact hT2.2 n (by omega)
                        · skip
                          try simp (disch := omega) only [zk0, nI_leI, nI_ltI, nI_eq, zbk_notn, zbk_not, zbk_n0, zbk_0, zb_0, zb_n0, zb_not, zb_notn, Bool.not_eq_false, Bool.not_eq_true, Bool.not_eq_true', Bool.not_eq_false', decide_eq_true_eq, decide_eq_false_iff_not, Classical.not_not] at c_170
                          refine z_ldc X qX9_217 dX9_reckons_173 ?_
                          refine z_goto (tgt := 180) X dX9_reckons_175 (by decide) ?_
                          first | rw [show Value.int (nI b9) :: [Value.int (nI (25 * p9 + n9)), Value.ref (g.2.1 39)] = Value.int (nI ((zLT 1000000 nd (fun i => zup (lt (dd i)) cd) (zusσ σ ne K vw nd)) p9 n9)) :: [Value.int (nI (25 * p9 + n9)), Value.ref (g.2.1 39)] from by rw [← hfin, Nat.min_eq_right (a := 1000000) (b := b9) (by omega)]] | rw [show (1000000 : Int32) = nI ((zLT 1000000 nd (fun i => zup (lt (dd i)) cd) (zusσ σ ne K vw nd)) p9 n9) from by rw [← hfin, Nat.min_eq_left (a := 1000000) (b := b9) (by omega)]; rfl]
                          refine z_iastN X (zsa_39 hS) (by omega) (by omega) dX9_reckons_180 ?_
                          refine z_inc1 X dX9_reckons_181 rfl (by decide) ?_
                          refine z_goto (tgt := 23) X dX9_reckons_184 (by decide) ?_
                          refine ih_23 (n9 + 1) _ _ _ _ (by omega) (fun i hi => by rw [z_up_ne hi]; exact hF3 i hi) ⟨fun p h1 h2 n h3 => ?_, fun n h => ?_⟩ (by omega)
                          · rw [z_up_app, if_pos rfl, if_neg (by omega)]; exact hT2.1 p h1 h2 n h3
                          · rw [z_up_app, if_pos rfl]
                            by_cases e : n = n9
                            · subst e; rw [if_pos rfl]
                            · rw [if_neg (by omega)]; exact hT2.2 n (by omega)
                      · skip
                        try simp (disch := omega) only [zk0, nI_leI, nI_ltI, nI_eq, zbk_notn, zbk_not, zbk_n0, zbk_0, zb_0, zb_n0, zb_not, zb_notn, Bool.not_eq_false, Bool.not_eq_true, Bool.not_eq_true', Bool.not_eq_false', decide_eq_true_eq, decide_eq_false_iff_not, Classical.not_not] at c_81
                        refine z_iload_n X dX9_reckons_84 rfl ?_
                        refine z_aload_n X dX9_reckons_85 rfl ?_
                        refine z_geti X fX9_202 (zso_21 hS) rfl dX9_reckons_86 ?_
                        rw [hndυ]
                        refine z_icmp_ge (tgt := 155) X dX9_reckons_89 (by decide) (fun c_89 => ?_) (fun c_89 => ?_)
                        · skip
                          try simp (disch := omega) only [zk0, nI_leI, nI_ltI, nI_eq, zbk_notn, zbk_not, zbk_n0, zbk_0, zb_0, zb_n0, zb_not, zb_notn, Bool.not_eq_false, Bool.not_eq_true, Bool.not_eq_true', Bool.not_eq_false', decide_eq_true_eq, decide_eq_false_iff_not, Classical.not_not] at c_89
                          have hfin : min 1000000 b9 = (zLT 1000000 nd (fun i => zup (lt (dd i)) cd) (zusσ σ ne K vw nd)) p9 n9 := by rcases hb with ⟨q1, q2, q3, q4⟩ | ⟨-, q⟩; (have e4 : m9 = 4 := by omega); subst e4; rw [q3, zLT_lt q1]; exact q
                          refine z_aload_n X dX9_reckons_155 rfl ?_
                          refine z_getr2 X fX9_62 (zso_21 hS) (zsr_21_23 hS) rfl dX9_reckons_156 ?_
                          refine z_bipush (v := nI 25) X (by decide) dX9_reckons_159 ?_
                          refine z_iload_n X dX9_reckons_161 rfl ?_
                          refine z_imulN X dX9_reckons_162 ?_
                          refine z_iload X dX9_reckons_163 rfl ?_
                          refine z_iaddN X dX9_reckons_165 ?_
                          refine z_iload X dX9_reckons_166 rfl ?_
                          refine z_ldc X qX9_217 dX9_reckons_168 ?_
                          rw [zkM]
                          refine z_icmp_le (tgt := 178) X dX9_reckons_170 (by decide) (fun c_170 => ?_) (fun c_170 => ?_)
                          · skip
                            try simp (disch := omega) only [zk0, nI_leI, nI_ltI, nI_eq, zbk_notn, zbk_not, zbk_n0, zbk_0, zb_0, zb_n0, zb_not, zb_notn, Bool.not_eq_false, Bool.not_eq_true, Bool.not_eq_true', Bool.not_eq_false', decide_eq_true_eq, decide_eq_false_iff_not, Classical.not_not] at c_170
                            refine z_iload X dX9_reckons_178 rfl ?_
                            first | rw [show Value.int (nI b9) :: [Value.int (nI (25 * p9 + n9)), Value.ref (g.2.1 39)] = Value.int (nI ((zLT 1000000 nd (fun i => zup (lt (dd i)) cd) (zusσ σ ne K vw nd)) p9 n9)) :: [Value.int (nI (25 * p9 + n9)), Value.ref (g.2.1 39)] from by rw [← hfin, Nat.min_eq_right (a := 1000000) (b := b9) (by omega)]] | rw [show (1000000 : Int32) = nI ((zLT 1000000 nd (fun i => zup (lt (dd i)) cd) (zusσ σ ne K vw nd)) p9 n9) from by rw [← hfin, Nat.min_eq_left (a := 1000000) (b := b9) (by omega)]; rfl]
                            refine z_iastN X (zsa_39 hS) (by omega) (by omega) dX9_reckons_180 ?_
                            refine z_inc1 X dX9_reckons_181 rfl (by decide) ?_
                            refine z_goto (tgt := 23) X dX9_reckons_184 (by decide) ?_
                            refine ih_23 (n9 + 1) _ _ _ _ (by omega) (fun i hi => by rw [z_up_ne hi]; exact hF3 i hi) ⟨fun p h1 h2 n h3 => ?_, fun n h => ?_⟩ (by omega)
                            · rw [z_up_app, if_pos rfl, if_neg (by omega)]; exact hT2.1 p h1 h2 n h3
                            · rw [z_up_app, if_pos rfl]
                              by_cases e : n = n9
                              · subst e; rw [if_pos rfl]
                              · rw [if_neg (by omega)]; exact hT2.2 n (by omega)
                          · skip
                            try simp (disch := omega) only [zk0, nI_leI, nI_ltI, nI_eq, zbk_notn, zbk_not, zbk_n0, zbk_0, zb_0, zb_n0, zb_not, zb_notn, Bool.not_eq_false, Bool.not_eq_true, Bool.not_eq_true', Bool.not_eq_false', decide_eq_true_eq, decide_eq_false_iff_not, Classical.not_not] at c_170
                            refine z_ldc X qX9_217 dX9_reckons_173 ?_
                            refine z_goto (tgt := 180) X dX9_reckons_175 (by decide) ?_
                            first | rw [show Value.int (nI b9) :: [Value.int (nI (25 * p9 + n9)), Value.ref (g.2.1 39)] = Value.int (nI ((zLT 1000000 nd (fun i => zup (lt (dd i)) cd) (zusσ σ ne K vw nd)) p9 n9)) :: [Value.int (nI (25 * p9 + n9)), Value.ref (g.2.1 39)] from by rw [← hfin, Nat.min_eq_right (a := 1000000) (b := b9) (by omega)]] | rw [show (1000000 : Int32) = nI ((zLT 1000000 nd (fun i => zup (lt (dd i)) cd) (zusσ σ ne K vw nd)) p9 n9) from by rw [← hfin, Nat.min_eq_left (a := 1000000) (b := b9) (by omega)]; rfl]
                            refine z_iastN X (zsa_39 hS) (by omega) (by omega) dX9_reckons_180 ?_
                            refine z_inc1 X dX9_reckons_181 rfl (by decide) ?_
                            refine z_goto (tgt := 23) X dX9_reckons_184 (by decide) ?_
                            refine ih_23 (n9 + 1) _ _ _ _ (by omega) (fun i hi => by rw [z_up_ne hi]; exact hF3 i hi) ⟨fun p h1 h2 n h3 => ?_, fun n h => ?_⟩ (by omega)
                            · rw [z_up_app, if_pos rfl, if_neg (by omega)]; exact hT2.1 p h1 h2 n h3
                            · rw [z_up_app, if_pos rfl]
                              by_cases e : n = n9
                              · subst e; rw [if_pos rfl]
                              · rw [if_neg (by omega)]; exact hT2.2 n (by omega)
                        · skip
                          try simp (disch := omega) only [zk0, nI_leI, nI_ltI, nI_eq, zbk_notn, zbk_not, zbk_n0, zbk_0, zb_0, zb_n0, zb_not, zb_notn, Bool.not_eq_false, Bool.not_eq_true, Bool.not_eq_true', Bool.not_eq_false', decide_eq_true_eq, decide_eq_false_iff_not, Classical.not_not] at c_89
                          refine z_iload X dX9_reckons_92 rfl ?_
                          refine z_if_le (tgt := 155) X dX9_reckons_94 (by decide) (fun c_94 => ?_) (fun c_94 => ?_)
                          · skip
                            try simp (disch := omega) only [zk0, nI_leI, nI_ltI, nI_eq, zbk_notn, zbk_not, zbk_n0, zbk_0, zb_0, zb_n0, zb_not, zb_notn, Bool.not_eq_false, Bool.not_eq_true, Bool.not_eq_true', Bool.not_eq_false', decide_eq_true_eq, decide_eq_false_iff_not, Classical.not_not] at c_94
                            have hfin : min 1000000 b9 = (zLT 1000000 nd (fun i => zup (lt (dd i)) cd) (zusσ σ ne K vw nd)) p9 n9 := by rcases hb with ⟨q1, q2, q3, q4⟩ | ⟨-, q⟩; (have e4 : m9 = 4 := by omega); subst e4; rw [q3, zLT_lt q1]; exact q
                            refine z_aload_n X dX9_reckons_155 rfl ?_
                            refine z_getr2 X fX9_62 (zso_21 hS) (zsr_21_23 hS) rfl dX9_reckons_156 ?_
                            refine z_bipush (v := nI 25) X (by decide) dX9_reckons_159 ?_
                            refine z_iload_n X dX9_reckons_161 rfl ?_
                            refine z_imulN X dX9_reckons_162 ?_
                            refine z_iload X dX9_reckons_163 rfl ?_
                            refine z_iaddN X dX9_reckons_165 ?_
                            refine z_iload X dX9_reckons_166 rfl ?_
                            refine z_ldc X qX9_217 dX9_reckons_168 ?_
                            rw [zkM]
                            refine z_icmp_le (tgt := 178) X dX9_reckons_170 (by decide) (fun c_170 => ?_) (fun c_170 => ?_)
                            · skip
                              try simp (disch := omega) only [zk0, nI_leI, nI_ltI, nI_eq, zbk_notn, zbk_not, zbk_n0, zbk_0, zb_0, zb_n0, zb_not, zb_notn, Bool.not_eq_false, Bool.not_eq_true, Bool.not_eq_true', Bool.not_eq_false', decide_eq_true_eq, decide_eq_false_iff_not, Classical.not_not] at c_170
                              refine z_iload X dX9_reckons_178 rfl ?_
                              first | rw [show Value.int (nI b9) :: [Value.int (nI (25 * p9 + n9)), Value.ref (g.2.1 39)] = Value.int (nI ((zLT 1000000 nd (fun i => zup (lt (dd i)) cd) (zusσ σ ne K vw nd)) p9 n9)) :: [Value.int (nI (25 * p9 + n9)), Value.ref (g.2.1 39)] from by rw [← hfin, Nat.min_eq_right (a := 1000000) (b := b9) (by omega)]] | rw [show (1000000 : Int32) = nI ((zLT 1000000 nd (fun i => zup (lt (dd i)) cd) (zusσ σ ne K vw nd)) p9 n9) from by rw [← hfin, Nat.min_eq_left (a := 1000000) (b := b9) (by omega)]; rfl]
                              refine z_iastN X (zsa_39 hS) (by omega) (by omega) dX9_reckons_180 ?_
                              refine z_inc1 X dX9_reckons_181 rfl (by decide) ?_
                              refine z_goto (tgt := 23) X dX9_reckons_184 (by decide) ?_
                              refine ih_23 (n9 + 1) _ _ _ _ (by omega) (fun i hi => by rw [z_up_ne hi]; exact hF3 i hi) ⟨fun p h1 h2 n h3 => ?_, fun n h => ?_⟩ (by omega)
                              · rw [z_up_app, if_pos rfl, if_neg (by omega)]; exact hT2.1 p h1 h2 n h3
                              · rw [z_up_app, if_pos rfl]
                                by_cases e : n = n9
                                · subst e; rw [if_pos rfl]
                                · rw [if_neg (by omega)]; exact hT2.2 n (by omega)
                            · skip
                              try simp (disch := omega) only [zk0, nI_leI, nI_ltI, nI_eq, zbk_notn, zbk_not, zbk_n0, zbk_0, zb_0, zb_n0, zb_not, zb_notn, Bool.not_eq_false, Bool.not_eq_true, Bool.not_eq_true', Bool.not_eq_false', decide_eq_true_eq, decide_eq_false_iff_not, Classical.not_not] at c_170
                              refine z_ldc X qX9_217 dX9_reckons_173 ?_
                              refine z_goto (tgt := 180) X dX9_reckons_175 (by decide) ?_
                              first | rw [show Value.int (nI b9) :: [Value.int (nI (25 * p9 + n9)), Value.ref (g.2.1 39)] = Value.int (nI ((zLT 1000000 nd (fun i => zup (lt (dd i)) cd) (zusσ σ ne K vw nd)) p9 n9)) :: [Value.int (nI (25 * p9 + n9)), Value.ref (g.2.1 39)] from by rw [← hfin, Nat.min_eq_right (a := 1000000) (b := b9) (by omega)]] | rw [show (1000000 : Int32) = nI ((zLT 1000000 nd (fun i => zup (lt (dd i)) cd) (zusσ σ ne K vw nd)) p9 n9) from by rw [← hfin, Nat.min_eq_left (a := 1000000) (b := b9) (by omega)]; rfl]
                              refine z_iastN X (zsa_39 hS) (by omega) (by omega) dX9_reckons_180 ?_
                              refine z_inc1 X dX9_reckons_181 rfl (by decide) ?_
                              refine z_goto (tgt := 23) X dX9_reckons_184 (by decide) ?_
                              refine ih_23 (n9 + 1) _ _ _ _ (by omega) (fun i hi => by rw [z_up_ne hi]; exact hF3 i hi) ⟨fun p h1 h2 n h3 => ?_, fun n h => ?_⟩ (by omega)
                              · rw [z_up_app, if_pos rfl, if_neg (by omega)]; exact hT2.1 p h1 h2 n h3
                              · rw [z_up_app, if_pos rfl]
                                by_cases e : n = n9
                                · subst e; rw [if_pos rfl]
                                · rw [if_neg (by omega)]; exact hT2.2 n (by omega)
                          · skip
                            try simp (disch := omega) only [zk0, nI_leI, nI_ltI, nI_eq, zbk_notn, zbk_not, zbk_n0, zbk_0, zb_0, zb_n0, zb_not, zb_notn, Bool.not_eq_false, Bool.not_eq_true, Bool.not_eq_true', Bool.not_eq_false', decide_eq_true_eq, decide_eq_false_iff_not, Classical.not_not] at c_94
                            have hb3 : p9 < nd ∧ 0 < n9 ∧ b9 = (zLTm 1000000 nd (fun i => zup (lt (dd i)) cd) (zusσ σ ne K vw nd)) p9 n9 m9 ∧ m9 ≤ 4 := by rcases hb with q | ⟨q, -⟩; exact q; exact absurd ⟨by omega, by omega⟩ q
                            refine z_aload_n X dX9_reckons_97 rfl ?_
                            refine z_iload_n X dX9_reckons_98 rfl ?_
                            refine z_iload X dX9_reckons_99 rfl ?_
                            refine z_iload_n X dX9_reckons_101 rfl ?_
                            refine z_runV X kX9_218 (tX9_entryAt (o := o) p9 (m9 + 1) hS hPυ (by omega) (by omega) (by omega)) (zso_21 hS) rfl rfl (Nat.le_of_ble_eq_true rfl) ⟨by decide, by decide⟩ ⟨by decide, by decide⟩ dX9_reckons_102 ?_
                            rintro _ g1 s1 ⟨r9, rfl, h8, h9, hr⟩
                            replace h8 := h8.symm
                            subst h8
                            replace h9 := h9.symm
                            subst h9
                            have hr1 := zen_e hF2 hr
                            have hr2 := zen_1 he2 hr1
                            refine z_iconst (v := -1) X (by decide) dX9_reckons_105 ?_
                            refine z_icmp_ne (tgt := 114) X dX9_reckons_106 (by decide) (fun c_106 => ?_) (fun c_106 => ?_)
                            · skip
                              have hbe : (if zusσ σ ne K vw nd p9 (m9 + 1) && decide (0 < n9) then (zLT 1000000 nd (fun i => zup (lt (dd i)) cd) (zusσ σ ne K vw nd)) (p9 + (m9 + 1)) (n9 - 1) else 1000000) = (zLT 1000000 nd (fun i => zup (lt (dd i)) cd) (zusσ σ ne K vw nd)) (p9 + (m9 + 1)) (n9 - 1) := by rcases hr2 with ⟨q, -⟩ | ⟨-, q⟩; exact absurd q c_106; rw [q, decide_eq_true hb3.2.1]; rfl
                              have hpm : p9 + (m9 + 1) ≤ nd := by rcases hr2 with ⟨q, -⟩ | ⟨-, q⟩; exact absurd q c_106; exact (zus_t.mp q).1
                              have hbl : (zLT 1000000 nd (fun i => zup (lt (dd i)) cd) (zusσ σ ne K vw nd)) (p9 + (m9 + 1)) (n9 - 1) ≤ 1000000 := zLT_le
                              refine z_aload_n X dX9_reckons_114 rfl ?_
                              refine z_getr2 X fX9_62 (zso_21 hS) (zsr_21_23 hS) rfl dX9_reckons_115 ?_
                              refine z_bipush (v := nI 25) X (by decide) dX9_reckons_118 ?_
                              refine z_iload_n X dX9_reckons_120 rfl ?_
                              refine z_iload X dX9_reckons_121 rfl ?_
                              refine z_iaddN X dX9_reckons_123 ?_
                              refine z_imulN X dX9_reckons_124 ?_
                              refine z_iload X dX9_reckons_125 rfl ?_
                              refine z_iaddN X dX9_reckons_127 ?_
                              refine z_iconst (v := nI 1) X (by decide) dX9_reckons_128 ?_
                              refine z_isubN X (by omega) dX9_reckons_129 ?_
                              refine z_ialdN X (zsa_39 hS) (by omega) (by omega) dX9_reckons_130 ?_
                              first | rw [zkM] | (rw [show 25 * (p9 + (m9 + 1)) + n9 - 1 = 25 * (p9 + (m9 + 1)) + (n9 - 1) by omega, hT2.1 (p9 + (m9 + 1)) (by omega) hpm (n9 - 1) (by omega)])
                              refine z_istore X dX9_reckons_131 (by decide) ?_
                              refine z_iload X dX9_reckons_133 rfl ?_
                              refine z_iload X dX9_reckons_135 rfl ?_
                              refine z_icmp_ge (tgt := 145) X dX9_reckons_137 (by decide) (fun c_137 => ?_) (fun c_137 => ?_)
                              · skip
                                try simp (disch := omega) only [zk0, nI_leI, nI_ltI, nI_eq, zbk_notn, zbk_not, zbk_n0, zbk_0, zb_0, zb_n0, zb_not, zb_notn, Bool.not_eq_false, Bool.not_eq_true, Bool.not_eq_true', Bool.not_eq_false', decide_eq_true_eq, decide_eq_false_iff_not, Classical.not_not] at c_137
                                refine z_iload X dX9_reckons_145 rfl ?_
                                refine z_istore X dX9_reckons_147 (by decide) ?_
                                refine z_inc1 X dX9_reckons_149 rfl (by decide) ?_
                                refine z_goto (tgt := 78) X dX9_reckons_152 (by decide) ?_
                                have hzz := zLTm_s (B := 1000000) (nd := nd) (pl := fun i => zup (lt (dd i)) cd) (us := zusσ σ ne K vw nd) (p := p9) (n := n9) (m := m9)
                                first
                                | exact ih_78 (m9 + 1) _ _ (by omega) (Or.inl ⟨hb3.1, hb3.2.1, by rw [hzz, hbe, ← hb3.2.2.1]; exact (Nat.min_eq_right (by omega)).symm, by omega⟩) (by omega) (by omega)
                                | exact ih_78 (m9 + 1) _ _ (by omega) (Or.inl ⟨hb3.1, hb3.2.1, by rw [hzz, hbe, ← hb3.2.2.1]; exact (Nat.min_eq_left (by omega)).symm, by omega⟩) (by omega) (by omega)
                              · skip
                                try simp (disch := omega) only [zk0, nI_leI, nI_ltI, nI_eq, zbk_notn, zbk_not, zbk_n0, zbk_0, zb_0, zb_n0, zb_not, zb_notn, Bool.not_eq_false, Bool.not_eq_true, Bool.not_eq_true', Bool.not_eq_false', decide_eq_true_eq, decide_eq_false_iff_not, Classical.not_not] at c_137
                                refine z_iload X dX9_reckons_140 rfl ?_
                                refine z_goto (tgt := 147) X dX9_reckons_142 (by decide) ?_
                                refine z_istore X dX9_reckons_147 (by decide) ?_
                                refine z_inc1 X dX9_reckons_149 rfl (by decide) ?_
                                refine z_goto (tgt := 78) X dX9_reckons_152 (by decide) ?_
                                have hzz := zLTm_s (B := 1000000) (nd := nd) (pl := fun i => zup (lt (dd i)) cd) (us := zusσ σ ne K vw nd) (p := p9) (n := n9) (m := m9)
                                first
                                | exact ih_78 (m9 + 1) _ _ (by omega) (Or.inl ⟨hb3.1, hb3.2.1, by rw [hzz, hbe, ← hb3.2.2.1]; exact (Nat.min_eq_right (by omega)).symm, by omega⟩) (by omega) (by omega)
                                | exact ih_78 (m9 + 1) _ _ (by omega) (Or.inl ⟨hb3.1, hb3.2.1, by rw [hzz, hbe, ← hb3.2.2.1]; exact (Nat.min_eq_left (by omega)).symm, by omega⟩) (by omega) (by omega)
                            · skip
                              have hbe : (if zusσ σ ne K vw nd p9 (m9 + 1) && decide (0 < n9) then (zLT 1000000 nd (fun i => zup (lt (dd i)) cd) (zusσ σ ne K vw nd)) (p9 + (m9 + 1)) (n9 - 1) else 1000000) = 1000000 := by rcases hr2 with ⟨-, q⟩ | ⟨q, -⟩; rw [q]; rfl; exact absurd c_106 q
                              have hbl : 1000000 ≤ 1000000 := Nat.le_refl _
                              refine z_ldc X qX9_217 dX9_reckons_109 ?_
                              refine z_goto (tgt := 131) X dX9_reckons_111 (by decide) ?_
                              first | rw [zkM] | (rw [show 25 * (p9 + (m9 + 1)) + n9 - 1 = 25 * (p9 + (m9 + 1)) + (n9 - 1) by omega, hT2.1 (p9 + (m9 + 1)) (by omega) hpm (n9 - 1) (by omega)])
                              refine z_istore X dX9_reckons_131 (by decide) ?_
                              refine z_iload X dX9_reckons_133 rfl ?_
                              refine z_iload X dX9_reckons_135 rfl ?_
                              refine z_icmp_ge (tgt := 145) X dX9_reckons_137 (by decide) (fun c_137 => ?_) (fun c_137 => ?_)
                              · skip
                                try simp (disch := omega) only [zk0, nI_leI, nI_ltI, nI_eq, zbk_notn, zbk_not, zbk_n0, zbk_0, zb_0, zb_n0, zb_not, zb_notn, Bool.not_eq_false, Bool.not_eq_true, Bool.not_eq_true', Bool.not_eq_false', decide_eq_true_eq, decide_eq_false_iff_not, Classical.not_not] at c_137
                                refine z_iload X dX9_reckons_145 rfl ?_
                                refine z_istore X dX9_reckons_147 (by decide) ?_
                                refine z_inc1 X dX9_reckons_149 rfl (by decide) ?_
                                refine z_goto (tgt := 78) X dX9_reckons_152 (by decide) ?_
                                have hzz := zLTm_s (B := 1000000) (nd := nd) (pl := fun i => zup (lt (dd i)) cd) (us := zusσ σ ne K vw nd) (p := p9) (n := n9) (m := m9)
                                first
                                | exact ih_78 (m9 + 1) _ _ (by omega) (Or.inl ⟨hb3.1, hb3.2.1, by rw [hzz, hbe, ← hb3.2.2.1]; exact (Nat.min_eq_right (by omega)).symm, by omega⟩) (by omega) (by omega)
                                | exact ih_78 (m9 + 1) _ _ (by omega) (Or.inl ⟨hb3.1, hb3.2.1, by rw [hzz, hbe, ← hb3.2.2.1]; exact (Nat.min_eq_left (by omega)).symm, by omega⟩) (by omega) (by omega)
                              · skip
                                try simp (disch := omega) only [zk0, nI_leI, nI_ltI, nI_eq, zbk_notn, zbk_not, zbk_n0, zbk_0, zb_0, zb_n0, zb_not, zb_notn, Bool.not_eq_false, Bool.not_eq_true, Bool.not_eq_true', Bool.not_eq_false', decide_eq_true_eq, decide_eq_false_iff_not, Classical.not_not] at c_137
                                refine z_iload X dX9_reckons_140 rfl ?_
                                refine z_goto (tgt := 147) X dX9_reckons_142 (by decide) ?_
                                refine z_istore X dX9_reckons_147 (by decide) ?_
                                refine z_inc1 X dX9_reckons_149 rfl (by decide) ?_
                                refine z_goto (tgt := 78) X dX9_reckons_152 (by decide) ?_
                                have hzz := zLTm_s (B := 1000000) (nd := nd) (pl := fun i => zup (lt (dd i)) cd) (us := zusσ σ ne K vw nd) (p := p9) (n := n9) (m := m9)
                                first
                                | exact ih_78 (m9 + 1) _ _ (by omega) (Or.inl ⟨hb3.1, hb3.2.1, by rw [hzz, hbe, ← hb3.2.2.1]; exact (Nat.min_eq_right (by omega)).symm, by omega⟩) (by omega) (by omega)
                                | exact ih_78 (m9 + 1) _ _ (by omega) (Or.inl ⟨hb3.1, hb3.2.1, by rw [hzz, hbe, ← hb3.2.2.1]; exact (Nat.min_eq_left (by omega)).symm, by omega⟩) (by omega) (by omega)
                  refine z_iconst (v := nI 1) X (by decide) dX9_reckons_75 ?_
                  refine z_istore X dX9_reckons_76 (by decide) ?_
                  exact loop_78 (4 - 0 + 1) 0 _ _ (Nat.zero_le _) hb0 hb02 (by omega)
        refine z_iconst (v := nI 0) X (by decide) dX9_reckons_20 ?_
        refine z_istore X dX9_reckons_21 (by decide) ?_
        exact loop_23 (25 - 0 + 1) 0 _ _ _ τ (Nat.zero_le _) hF ⟨fun p h1 h2 n h3 => hT p (by omega) h2 n h3, fun n h => absurd h (Nat.not_lt_zero _)⟩ (by omega)
  refine z_aload_n X dX9_reckons_11 rfl ?_
  refine z_geti X fX9_202 (zso_21 hS) rfl dX9_reckons_12 ?_
  rw [hnd]
  refine z_istore_n X dX9_reckons_15 (by decide) ?_
  have e16 := fun v4 v5 v6 v7 => loop_16 (nd + 1 + 1) (nd + 1) v4 v5 v6 v7 σ (Nat.le_refl _) (fun _ _ => rfl) (fun p h1 h2 => absurd h1 (by omega)) (by omega)
  rw [zpm_s] at e16
  exact e16 _ _ _ _
