/-! contracts of the reference: claim, reading -/
/-- letter k mod 5 of word k div 5 went wrong -/
def zdf (σ : zIn) (m k : Nat) : Prop := 0 ≤ σ 50 (24 * m + k / 5) ∧ zl (σ 50 (24 * m + k / 5)) (k % 5) ≠ zl (σ 51 (24 * m + k / 5)) (k % 5)
def zclR (σ : zIn) (m W : Nat) (r : Int32) : Prop := (∃ k, k < 5 * W ∧ zdf σ m k ∧ (∀ j, j < k → ¬ zdf σ m j) ∧ r = nI k) ∨ ((∀ k, k < 5 * W → ¬ zdf σ m k) ∧ r = -1)
set_option maxHeartbeats 4000000 in
set_option maxRecDepth 100000 in
theorem tX9_claim {l : Launch} {D : va_G} {cy : Nat → ClassId} {z0 : Nat} {g : zSh} {σ : zIn} {nm : Nat} {W : Nat → Nat} (xq : Int32) (hS : zS g) (hnm : σ 21 27 = nI nm) (hn60 : nm ≤ 60) (hW : ∀ m, m < nm → σ 45 m = nI (W m) ∧ W m ≤ 24) (hnw : ∀ m, m < nm → ∀ k, k < W m → 0 ≤ σ 50 (24 * m + k) → zwd (σ 50 (24 * m + k)) ∧ zwd (σ 51 (24 * m + k))) : z_Ct l D cy z0 MX9_claim [.ref (g.2.1 21), .int xq] g σ (fun v g' σ' => g' = g ∧ ∃ r, v = some (.int r) ∧ zMP (zx_in nm xq) σ σ' (∃ m, m < nm ∧ xq = nI m ∧ zclR σ m (W m) r ∧ σ' = z_up σ 21 48 0)) := by
  refine z_ofM (by decide) (z_cr (z_ci z_c0)) (Nat.le_of_ble_eq_true rfl) ?_
  intro p e s m args below meth c X
  refine z_aload_n X dX9_claim_0 rfl ?_
  refine z_aload_n X dX9_claim_1 rfl ?_
  refine z_iload_n X dX9_claim_2 rfl ?_
  refine z_runV X kX9_257 (tX9_isMessage _ hS hnm (by omega)) (zso_21 hS) rfl rfl (Nat.le_of_ble_eq_true rfl) ⟨by decide, by decide⟩ ⟨by decide, by decide⟩ dX9_claim_3 ?_
  rintro _ g1 s1 ⟨rfl, h8, h9⟩
  replace h8 := h8.symm
  subst h8
  replace h9 := h9.symm
  subst h9
  obtain ⟨b6, hb6⟩ : ∃ q : Bool, q = zin xq nm := ⟨_, rfl⟩
  rw [← hb6]
  cases b6
  · skip
    skip
    refine z_runV X kX9_150 (tX9_asks false hS) (zso_21 hS) rfl rfl (Nat.le_of_ble_eq_true rfl) ⟨by decide, by decide⟩ ⟨by decide, by decide⟩ dX9_claim_6 ?_
    rintro _ g1 s1 ⟨rfl, h8, h9⟩
    replace h8 := h8.symm
    subst h8
    replace h9 := h9.symm
    subst h9
    refine z_if_ne (tgt := 14) X dX9_claim_9 (by decide) (fun c_9 => ?_) (fun c_9 => ?_)
    · exact absurd rfl c_9
    · skip
      refine z_iconst (v := 0) X (by decide) dX9_claim_12 ?_
      refine z_iret X (by decide) (by decide) rfl dX9_claim_13 ?_
      exact ⟨rfl, _, rfl, zMP_1 (j := 0) (by unfold zx_in; rw [← hb6]; rfl) rfl⟩
  · skip
    skip
    refine z_runV X kX9_150 (tX9_asks true hS) (zso_21 hS) rfl rfl (Nat.le_of_ble_eq_true rfl) ⟨by decide, by decide⟩ ⟨by decide, by decide⟩ dX9_claim_6 ?_
    rintro _ g1 s1 ⟨rfl, h8, h9⟩
    replace h8 := h8.symm
    subst h8
    replace h9 := h9.symm
    subst h9
    refine z_if_ne (tgt := 14) X dX9_claim_9 (by decide) (fun c_9 => ?_) (fun c_9 => ?_)
    · skip
      obtain ⟨m9, hm9, rfl⟩ := zin_t hb6.symm (by omega)
      have hL24 := (hW m9 hm9).2
      obtain ⟨τ, hτ⟩ : ∃ q, q = z_up σ 21 48 0 := ⟨_, rfl⟩
      rw [show z_up σ 21 48 (if true = true then 0 else 1) = τ from hτ.symm]
      have eτ : ∀ i, i ≠ 21 → τ i = σ i := fun i h => by rw [hτ, z_up_ne h]
      have eτ1 : ∀ k, k ≠ 48 → τ 21 k = σ 21 k := fun k h => by rw [hτ, z_up_app, if_pos rfl, if_neg h]
      have e45 : τ 45 m9 = nI (W m9) := by rw [eτ 45 (by decide)]; exact (hW m9 hm9).1
      have e50 := eτ 50 (by decide)
      have e51 := eτ 51 (by decide)
      have loop_16 : ∀ (n : Nat) (k : Nat) (v3 : Option Value) (hk : k ≤ 5 * W m9) (hall : ∀ j, j < k → ¬ zdf σ m9 j) (hn : 5 * W m9 - k < n), z_V p l e (zRm MX9_claim) s m args below meth c 4 D cy z0 0 0 (zQm MX9_claim below D cy z0 (fun v g' σ' => g' = g ∧ ∃ r, v = some (.int r) ∧ zMP (zx_in nm (nI m9)) σ σ' (∃ m, m < nm ∧ (nI m9) = nI m ∧ zclR σ m (W m) r ∧ σ' = z_up σ 21 48 0)) args s) 16 [some (.ref (g.2.1 21)), some (.int (nI m9)), some (.int (nI k)), v3] [] g τ := by
        intro n
        induction n with
        | zero => intro k v3 hk hall hn; exact absurd hn (Nat.not_lt_zero _)
        | succ n ih_16 =>
          intro k v3 hk hall hn
          refine z_iload_n X dX9_claim_16 rfl ?_
          refine z_iconst (v := nI 5) X (by decide) dX9_claim_17 ?_
          refine z_aload_n X dX9_claim_18 rfl ?_
          refine z_getr2 X fX9_80 (zso_21 hS) (zsr_21_32 hS) rfl dX9_claim_19 ?_
          refine z_iload_n X dX9_claim_22 rfl ?_
          refine z_ialdN X (zsa_45 hS) (by omega) (by omega) dX9_claim_23 ?_
          rw [e45]
          refine z_imulN X dX9_claim_24 ?_
          refine z_icmp_ge (tgt := 83) X dX9_claim_25 (by decide) (fun c_25 => ?_) (fun c_25 => ?_)
          · skip
            try simp (disch := omega) only [zk0, nI_leI, nI_ltI, nI_eq, zbk_notn, zbk_not, zbk_n0, zbk_0, zb_0, zb_n0, zb_not, zb_notn, Bool.not_eq_false, Bool.not_eq_true, Bool.not_eq_true', Bool.not_eq_false', decide_eq_true_eq, decide_eq_false_iff_not, Classical.not_not] at c_25
            refine z_iconst (v := -1) X (by decide) dX9_claim_83 ?_
            refine z_iret X (by decide) (by decide) rfl dX9_claim_84 ?_
            exact ⟨rfl, _, rfl, Or.inr ⟨by unfold zx_in; rw [if_pos hb6.symm], m9, hm9, rfl, Or.inr ⟨fun j hj => hall j (by omega), rfl⟩, hτ⟩⟩
          · skip
            try simp (disch := omega) only [zk0, nI_leI, nI_ltI, nI_eq, zbk_notn, zbk_not, zbk_n0, zbk_0, zb_0, zb_n0, zb_not, zb_notn, Bool.not_eq_false, Bool.not_eq_true, Bool.not_eq_true', Bool.not_eq_false', decide_eq_true_eq, decide_eq_false_iff_not, Classical.not_not] at c_25
            refine z_bipush (v := nI 24) X (by decide) dX9_claim_28 ?_
            refine z_iload_n X dX9_claim_30 rfl ?_
            refine z_imulN X dX9_claim_31 ?_
            refine z_iload_n X dX9_claim_32 rfl ?_
            refine z_iconst (v := nI 5) X (by decide) dX9_claim_33 ?_
            refine z_idivN X (by omega) (by omega) (by omega) dX9_claim_34 ?_
            refine z_iaddN X dX9_claim_35 ?_
            refine z_istore_n X dX9_claim_36 (by decide) ?_
            refine z_aload_n X dX9_claim_37 rfl ?_
            refine z_iload_n X dX9_claim_38 rfl ?_
            refine z_iload_n X dX9_claim_39 rfl ?_
            refine z_iconst (v := nI 5) X (by decide) dX9_claim_40 ?_
            refine z_idivN X (by omega) (by omega) (by omega) dX9_claim_41 ?_
            refine z_runV X kX9_260 (tX9_isCodeAt m9 (k / 5) hS (by omega) (by omega)) (zso_21 hS) rfl rfl (Nat.le_of_ble_eq_true rfl) ⟨by decide, by decide⟩ ⟨by decide, by decide⟩ dX9_claim_42 ?_
            rintro _ g1 s1 ⟨rfl, h8, h9⟩
            replace h8 := h8.symm
            subst h8
            replace h9 := h9.symm
            subst h9
            rw [e50]
            refine z_if_eq (tgt := 77) X dX9_claim_45 (by decide) (fun c_45 => ?_) (fun c_45 => ?_)
            · skip
              try simp (disch := omega) only [zb_notn, zb_not, zb_n0, zb_0, Bool.not_eq_false, Bool.not_eq_true, Bool.not_eq_true', Bool.not_eq_false', decide_eq_true_eq, decide_eq_false_iff_not, Classical.not_not] at c_45
              have hN : ¬ zdf σ m9 k := fun q => by first | exact c_45 q.1 | (have q2 := q.2; rw [eV1, eV2] at q2; exact q2 c_72)
              refine z_inc1 X dX9_claim_77 rfl (by decide) ?_
              refine z_goto (tgt := 16) X dX9_claim_80 (by decide) ?_
              exact ih_16 (k + 1) _ (by omega) (fun j hj => by rcases Nat.lt_or_ge j k with h | h; exact hall j h; (have e : j = k := by omega); subst e; exact hN) (by omega)
            · skip
              try simp (disch := omega) only [zb_notn, zb_not, zb_n0, zb_0, Bool.not_eq_false, Bool.not_eq_true, Bool.not_eq_true', Bool.not_eq_false', decide_eq_true_eq, decide_eq_false_iff_not, Classical.not_not] at c_45
              obtain ⟨⟨V1, hV1, eV1⟩, ⟨V2, hV2, eV2⟩⟩ := hnw m9 hm9 (k / 5) (by omega) c_45
              have hl1 := zl_lt (nI V1) (k % 5)
              have hl2 := zl_lt (nI V2) (k % 5)
              refine z_aload_n X dX9_claim_48 rfl ?_
              refine z_getr2 X fX9_95 (zso_21 hS) (zsr_21_37 hS) rfl dX9_claim_49 ?_
              refine z_iload_n X dX9_claim_52 rfl ?_
              refine z_ialdN X (zsa_50 hS) (by omega) (by omega) dX9_claim_53 ?_
              rw [e50, eV1]
              refine z_iload_n X dX9_claim_54 rfl ?_
              refine z_iconst (v := nI 5) X (by decide) dX9_claim_55 ?_
              refine z_iremN X (by omega) (by omega) (by omega) dX9_claim_56 ?_
              refine z_runS X kX9_143 (tX9_letter V1 (k % 5) (by omega) (by omega)) rfl rfl (Nat.le_of_ble_eq_true rfl) ⟨by decide, by decide⟩ ⟨by decide, by decide⟩ dX9_claim_57 ?_
              rintro _ g1 s1 ⟨rfl, h8, h9⟩
              replace h8 := h8.symm
              subst h8
              replace h9 := h9.symm
              subst h9
              refine z_aload_n X dX9_claim_60 rfl ?_
              refine z_getr2 X fX9_98 (zso_21 hS) (zsr_21_38 hS) rfl dX9_claim_61 ?_
              refine z_iload_n X dX9_claim_64 rfl ?_
              refine z_ialdN X (zsa_51 hS) (by omega) (by omega) dX9_claim_65 ?_
              rw [e51, eV2]
              refine z_iload_n X dX9_claim_66 rfl ?_
              refine z_iconst (v := nI 5) X (by decide) dX9_claim_67 ?_
              refine z_iremN X (by omega) (by omega) (by omega) dX9_claim_68 ?_
              refine z_runS X kX9_143 (tX9_letter V2 (k % 5) (by omega) (by omega)) rfl rfl (Nat.le_of_ble_eq_true rfl) ⟨by decide, by decide⟩ ⟨by decide, by decide⟩ dX9_claim_69 ?_
              rintro _ g1 s1 ⟨rfl, h8, h9⟩
              replace h8 := h8.symm
              subst h8
              replace h9 := h9.symm
              subst h9
              refine z_icmp_eq (tgt := 77) X dX9_claim_72 (by decide) (fun c_72 => ?_) (fun c_72 => ?_)
              · skip
                try simp (disch := omega) only [zk0, nI_leI, nI_ltI, nI_eq, zbk_notn, zbk_not, zbk_n0, zbk_0, zb_0, zb_n0, zb_not, zb_notn, Bool.not_eq_false, Bool.not_eq_true, Bool.not_eq_true', Bool.not_eq_false', decide_eq_true_eq, decide_eq_false_iff_not, Classical.not_not] at c_72
                have hN : ¬ zdf σ m9 k := fun q => by first | exact c_45 q.1 | (have q2 := q.2; rw [eV1, eV2] at q2; exact q2 c_72)
                refine z_inc1 X dX9_claim_77 rfl (by decide) ?_
                refine z_goto (tgt := 16) X dX9_claim_80 (by decide) ?_
                exact ih_16 (k + 1) _ (by omega) (fun j hj => by rcases Nat.lt_or_ge j k with h | h; exact hall j h; (have e : j = k := by omega); subst e; exact hN) (by omega)
              · skip
                try simp (disch := omega) only [zk0, nI_leI, nI_ltI, nI_eq, zbk_notn, zbk_not, zbk_n0, zbk_0, zb_0, zb_n0, zb_not, zb_notn, Bool.not_eq_false, Bool.not_eq_true, Bool.not_eq_true', Bool.not_eq_false', decide_eq_true_eq, decide_eq_false_iff_not, Classical.not_not] at c_72
                have hY : zdf σ m9 k := ⟨c_45, by rw [eV1, eV2]; exact c_72⟩
                refine z_iload_n X dX9_claim_75 rfl ?_
                refine z_iret X (by decide) (by decide) rfl dX9_claim_76 ?_
                exact ⟨rfl, _, rfl, Or.inr ⟨by unfold zx_in; rw [if_pos hb6.symm], m9, hm9, rfl, Or.inl ⟨k, by omega, hY, hall, rfl⟩, hτ⟩⟩
      refine z_iconst (v := nI 0) X (by decide) dX9_claim_14 ?_
      refine z_istore_n X dX9_claim_15 (by decide) ?_
      exact loop_16 (5 * W m9 - 0 + 1) 0 _ (Nat.zero_le _) (fun j hj => absurd hj (Nat.not_lt_zero _)) (by omega)
    · exact absurd c_9 (by decide)

theorem zmodK {k K ne : Nat} (hk : k < ne) : (((k : Int) - K) % ne).toNat = if K % ne ≤ k then k - K % ne else k + ne - K % ne := by
  have hr := Nat.mod_lt K (show 0 < ne by omega)
  have e1 : ((K : Int) = ne * ((K / ne : Nat) : Int) + ((K % ne : Nat) : Int)) := by
    have := Nat.div_add_mod K ne
    exact_mod_cast this.symm
  generalize hR : K % ne = R at hr e1 ⊢
  generalize hQ : K / ne = Q at e1
  have e2 : (k : Int) - K = ((k : Int) - R) - ne * Q := by rw [e1]; omega
  rw [e2, Int.sub_mul_emod_self_left]
  split
  · rw [Int.emod_eq_of_lt (by omega) (by omega)]; omega
  · have e3 : ((k : Int) - R) % ne = ((k : Int) - R + ne) % ne := (Int.add_emod_right _ _).symm
    rw [e3, Int.emod_eq_of_lt (by omega) (by omega)]; omega
/-- what readAs answers -/
def zra (C : Nat → Int32) (ne K : Nat) (w r : Int32) : Prop := (zcnt (zP C ne w) ne ≠ 1 ∧ r = -1) ∨ (zcnt (zP C ne w) ne = 1 ∧ ∃ k j, k < ne ∧ zP C ne w k ∧ j < ne ∧ j = (((k : Int) - K) % ne).toNat ∧ r = nI j)
set_option maxHeartbeats 4000000 in
set_option maxRecDepth 100000 in
theorem tX9_readAs {l : Launch} {D : va_G} {cy : Nat → ClassId} {z0 : Nat} {g : zSh} {σ : zIn} {ne K tt : Nat} (m9 k9 V : Nat) (hS : zS g) (he : σ 21 2 = nI ne) (he2 : ne ≤ 40) (hC : ∀ k, k < ne → zwd (σ 23 k)) (hm : m9 < 60) (hk : k9 < 24) (hV : σ 51 (24 * m9 + k9) = nI V) (hV2 : V < 11881376) (hto : σ 42 m9 = nI tt) (ht8 : tt < 8) (hK : σ 26 tt = nI K) (hK2 : K ≤ 39) : z_Ct l D cy z0 MX9_readAs [.ref (g.2.1 21), .int (nI m9), .int (nI k9)] g σ (fun v g' σ' => ∃ r, v = some (.int r) ∧ g' = g ∧ σ' = σ ∧ zra (σ 23) ne K (nI V) r) := by
  have h40 := zcnt_le (zP (σ 23) ne (nI V)) ne
  refine z_ofM (by decide) (z_cr (z_ci (z_ci z_c0))) (Nat.le_of_ble_eq_true rfl) ?_
  intro p e s m args below meth c X
  refine z_aload_n X dX9_readAs_0 rfl ?_
  refine z_getr2 X fX9_98 (zso_21 hS) (zsr_21_38 hS) rfl dX9_readAs_1 ?_
  refine z_bipush (v := nI 24) X (by decide) dX9_readAs_4 ?_
  refine z_iload_n X dX9_readAs_6 rfl ?_
  refine z_imulN X dX9_readAs_7 ?_
  refine z_iload_n X dX9_readAs_8 rfl ?_
  refine z_iaddN X dX9_readAs_9 ?_
  refine z_ialdN X (zsa_51 hS) (by omega) (by omega) dX9_readAs_10 ?_
  rw [hV]
  refine z_istore_n X dX9_readAs_11 (by decide) ?_
  refine z_aload_n X dX9_readAs_12 rfl ?_
  refine z_iload_n X dX9_readAs_13 rfl ?_
  refine z_runV X kX9_181 (tX9_candidatesOf V hS he he2 hC hV2) (zso_21 hS) rfl rfl (Nat.le_of_ble_eq_true rfl) ⟨by decide, by decide⟩ ⟨by decide, by decide⟩ dX9_readAs_14 ?_
  rintro _ g1 s1 ⟨rfl, h8, h9⟩
  replace h8 := h8.symm
  subst h8
  replace h9 := h9.symm
  subst h9
  refine z_iconst (v := nI 1) X (by decide) dX9_readAs_17 ?_
  refine z_icmp_eq (tgt := 23) X dX9_readAs_18 (by decide) (fun c_18 => ?_) (fun c_18 => ?_)
  · skip
    try simp (disch := omega) only [zk0, nI_leI, nI_ltI, nI_eq, zbk_notn, zbk_not, zbk_n0, zbk_0, zb_0, zb_n0, zb_not, zb_notn, Bool.not_eq_false, Bool.not_eq_true, Bool.not_eq_true', Bool.not_eq_false', decide_eq_true_eq, decide_eq_false_iff_not, Classical.not_not] at c_18
    have hne0 : 0 < ne := by rcases Nat.eq_zero_or_pos ne with q | q; subst q; (have c18 := c_18); exact absurd c18 (by show ¬ (0 : Nat) = 1; decide); exact q
    refine z_aload_n X dX9_readAs_23 rfl ?_
    refine z_iload_n X dX9_readAs_24 rfl ?_
    refine z_iconst (v := nI 0) X (by decide) dX9_readAs_25 ?_
    refine z_runV X kX9_178 (tX9_candidateAt V 0 hS he he2 hC hV2 (by decide)) (zso_21 hS) rfl rfl (Nat.le_of_ble_eq_true rfl) ⟨by decide, by decide⟩ ⟨by decide, by decide⟩ dX9_readAs_26 ?_
    rintro _ g1 s1 ⟨r7, rfl, h8, h9, hr7⟩
    replace h8 := h8.symm
    subst h8
    replace h9 := h9.symm
    subst h9
    obtain ⟨k7, hk7, hp7, hc7, rfl⟩ : ∃ k7, k7 < ne ∧ zP (σ 23) ne (nI V) k7 ∧ 0 = zcnt (zP (σ 23) ne (nI V)) k7 ∧ r7 = nI k7 := by rcases hr7 with ⟨q, -⟩ | q; omega; exact q
    refine z_aload_n X dX9_readAs_29 rfl ?_
    refine z_getr2 X fX9_23 (zso_21 hS) (zsr_21_7 hS) rfl dX9_readAs_30 ?_
    refine z_aload_n X dX9_readAs_33 rfl ?_
    refine z_getr2 X fX9_71 (zso_21 hS) (zsr_21_29 hS) rfl dX9_readAs_34 ?_
    refine z_iload_n X dX9_readAs_37 rfl ?_
    skip
    refine z_ialdN X (zsa_42 hS) (by omega) (by omega) dX9_readAs_38 ?_
    rw [hto]
    refine z_ialdN X (zsa_26 hS) (by omega) (by omega) dX9_readAs_39 ?_
    rw [hK]
    refine z_aload_n X dX9_readAs_40 rfl ?_
    refine z_geti X fX9_168 (zso_21 hS) rfl dX9_readAs_41 ?_
    rw [he]
    refine z_iremN X (by omega) (by omega) (by omega) dX9_readAs_44 ?_
    have hr := Nat.mod_lt K hne0
    have hsub := pk_sub_toInt (a := k7) (b := K % ne) (by omega) (by omega)
    have hzm := zmodK (K := K) hk7
    refine z_isub X dX9_readAs_45 ?_
    refine z_istore X dX9_readAs_46 (by decide) ?_
    refine z_iload X dX9_readAs_48 rfl ?_
    skip
    refine z_if_ge (tgt := 63) X dX9_readAs_50 (by decide) (fun c_50 => ?_) (fun c_50 => ?_)
    · skip
      refine z_iload X dX9_readAs_63 rfl ?_
      refine z_iret X (by decide) (by decide) rfl dX9_readAs_65 ?_
      refine ⟨_, rfl, rfl, rfl, Or.inr ⟨c_18, k7, _, hk7, hp7, ?_, rfl, ?_⟩⟩
      · rw [hzm]; split <;> omega
      · rw [hzm]
        have c50 : (0 : Int32).toInt ≤ (nI k7 - nI (K % ne)).toInt ∨ ¬ (0 : Int32).toInt ≤ (nI k7 - nI (K % ne)).toInt := Classical.em _
        have z0 : (0 : Int32).toInt = 0 := by decide
        rw [hsub, z0] at c50
        first
        | (have c5 : (0 : Int32).toInt ≤ (nI k7 - nI (K % ne)).toInt := Int32.le_iff_toInt_le.mp c_50
           rw [hsub, z0] at c5
           rw [if_pos (by omega), pk_sub (by omega)])
        | (have c5 : ¬ (0 : Int32).toInt ≤ (nI k7 - nI (K % ne)).toInt := fun q => c_50 (Int32.le_iff_toInt_le.mpr q)
           rw [hsub, z0] at c5
           rw [if_neg (by omega), ← pk_sub (by omega), ← nI_add]
           simp only [Int32.sub_eq_add_neg, Int32.add_assoc, Int32.add_comm (nI ne)])
    · skip
      refine z_iload X dX9_readAs_53 rfl ?_
      refine z_aload_n X dX9_readAs_55 rfl ?_
      refine z_geti X fX9_168 (zso_21 hS) rfl dX9_readAs_56 ?_
      rw [he]
      refine z_iadd X dX9_readAs_59 ?_
      refine z_goto (tgt := 65) X dX9_readAs_60 (by decide) ?_
      refine z_iret X (by decide) (by decide) rfl dX9_readAs_65 ?_
      refine ⟨_, rfl, rfl, rfl, Or.inr ⟨c_18, k7, _, hk7, hp7, ?_, rfl, ?_⟩⟩
      · rw [hzm]; split <;> omega
      · rw [hzm]
        have c50 : (0 : Int32).toInt ≤ (nI k7 - nI (K % ne)).toInt ∨ ¬ (0 : Int32).toInt ≤ (nI k7 - nI (K % ne)).toInt := Classical.em _
        have z0 : (0 : Int32).toInt = 0 := by decide
        rw [hsub, z0] at c50
        first
        | (have c5 : (0 : Int32).toInt ≤ (nI k7 - nI (K % ne)).toInt := Int32.le_iff_toInt_le.mp c_50
           rw [hsub, z0] at c5
           rw [if_pos (by omega), pk_sub (by omega)])
        | (have c5 : ¬ (0 : Int32).toInt ≤ (nI k7 - nI (K % ne)).toInt := fun q => c_50 (Int32.le_iff_toInt_le.mpr q)
           rw [hsub, z0] at c5
           rw [if_neg (by omega), ← pk_sub (by omega), ← nI_add]
           simp only [Int32.sub_eq_add_neg, Int32.add_assoc, Int32.add_comm (nI ne)])
  · skip
    try simp (disch := omega) only [zk0, nI_leI, nI_ltI, nI_eq, zbk_notn, zbk_not, zbk_n0, zbk_0, zb_0, zb_n0, zb_not, zb_notn, Bool.not_eq_false, Bool.not_eq_true, Bool.not_eq_true', Bool.not_eq_false', decide_eq_true_eq, decide_eq_false_iff_not, Classical.not_not] at c_18
    refine z_iconst (v := -1) X (by decide) dX9_readAs_21 ?_
    refine z_iret X (by decide) (by decide) rfl dX9_readAs_22 ?_
    exact ⟨_, rfl, rfl, rfl, Or.inl ⟨c_18, rfl⟩⟩
