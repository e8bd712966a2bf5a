/-! contract: one minute -/
theorem nIne0 {a : Nat} (h0 : 0 < a) (ha : a ≤ 1000) : ¬ nI a = 0 := fun e => by
  have := (nI_eq (a := a) (b := 0) (by omega) (by decide)).mp e
  omega
set_option maxHeartbeats 4000000 in
set_option maxRecDepth 100000 in
theorem tX8_carryMinute {l : Launch} {D : va_G} {cy : Nat → ClassId} {z0 : zRg} {g : zSh} {σ : zIn} {no nc nm : Nat} {kd pd : Nat → Nat} {ro : Nat → Nat → Nat} {hc fb br : Nat → Bool} {st ia lg lf ca co sp : Nat → Nat} (hS : zS g) (hO : zO g no) (hno : σ 13 4 = nI no) (hK : zC g nc) (hnc : σ 13 5 = nI nc) (hG : zG g nm) (hnm : σ 1 8 = nI nm) (hMs : zMs g σ nm nc kd pd ro hc) (hMd : zMd g σ nm no st ia lg lf) (hCs : zCs σ nc no ca co sp br) (hfb : ∀ o, o < no → σ (100 + o) 2 = zb (fb o)) : z_Ct l D cy z0 MX8_carryMinute [.ref (g.2.1 1)] g σ (fun v g' σ' => v = none ∧ g' = g ∧ zFM σ σ' ∧ zMd g σ' nm no (zmx (zst2 g st lg (zcb st lg ro) (zcj kd (zcb st lg ro) nm (lf, fun c => if br c then 0 else sp c) 3).1 (zoE ca co (zcb st lg ro) ia) hc fb) st nm) (zmx (zia2 ia (zcb st lg ro) (zcj kd (zcb st lg ro) nm (lf, fun c => if br c then 0 else sp c) 3).1 (zoE ca co (zcb st lg ro) ia)) ia nm) (zmx (zlg2 lg (zcb st lg ro) (zcj kd (zcb st lg ro) nm (lf, fun c => if br c then 0 else sp c) 3).1) lg nm) (zmx (zlf2 pd (zcb st lg ro) (zcj kd (zcb st lg ro) nm (lf, fun c => if br c then 0 else sp c) 3).1) (zcj kd (zcb st lg ro) nm (lf, fun c => if br c then 0 else sp c) 3).1 nm)) := by
  have hl2 := hG.1
  have hl3 := hK.1
  have hl1 := hO.1
  have hcb : ∀ m, m < nm → (st m = 0 ∧ zcb st lg ro m < nc ∧ zcb st lg ro m = ro m (lg m)) ∨ (st m ≠ 0 ∧ zcb st lg ro m = 99) := fun m hm => by
    unfold zcb
    by_cases e : st m = 0
    · rw [if_pos e]; exact Or.inl ⟨e, ((hMs m hm).2.2.2.2.2.2 (lg m) ((hMd m hm).2.2.1.2.2 e)).2, rfl⟩
    · rw [if_neg e]; exact Or.inr ⟨e, rfl⟩
  refine z_ofM (by decide) (z_cr z_c0) (Nat.le_of_ble_eq_true rfl) ?_
  intro p e s m args below meth c X
  have loop_9 : ∀ (n : Nat) (k1 j : Nat) (v2 v3 : Option Value) (τ : zIn) (hj : k1 + j = 3) (hW : zWc g σ τ nm no nc st ia lg (zcj kd (zcb st lg ro) nm (lf, fun c => if br c then 0 else sp c) j)) (hn : k1 < n), z_V p l e (zRm MX8_carryMinute) s m args below meth c 4 D cy z0 0 0 (zQm MX8_carryMinute below D cy z0 (fun v g' σ' => v = none ∧ g' = g ∧ zFM σ σ' ∧ zMd g σ' nm no (zmx (zst2 g st lg (zcb st lg ro) (zcj kd (zcb st lg ro) nm (lf, fun c => if br c then 0 else sp c) 3).1 (zoE ca co (zcb st lg ro) ia) hc fb) st nm) (zmx (zia2 ia (zcb st lg ro) (zcj kd (zcb st lg ro) nm (lf, fun c => if br c then 0 else sp c) 3).1 (zoE ca co (zcb st lg ro) ia)) ia nm) (zmx (zlg2 lg (zcb st lg ro) (zcj kd (zcb st lg ro) nm (lf, fun c => if br c then 0 else sp c) 3).1) lg nm) (zmx (zlf2 pd (zcb st lg ro) (zcj kd (zcb st lg ro) nm (lf, fun c => if br c then 0 else sp c) 3).1) (zcj kd (zcb st lg ro) nm (lf, fun c => if br c then 0 else sp c) 3).1 nm)) args s) 9 [some (.ref (g.2.1 1)), some (.int (nI k1 - nI 1)), v2, v3] [] g τ := by
    intro n
    induction n with
    | zero => intro k1 j v2 v3 τ hj hW hn; exact absurd hn (Nat.not_lt_zero _)
    | succ n ih_9 =>
      intro k1 j v2 v3 τ hj hW hn
      refine z_iload_n X dX8_carryMinute_9 rfl ?_
      refine z_if_lt (tgt := 68) X dX8_carryMinute_10 (by decide) (fun c_10 => ?_) (fun c_10 => ?_)
      · skip
        have hp0 : k1 = 0 := by
          rcases Nat.eq_zero_or_pos k1 with h | h
          · exact h
          · rw [pk_sub (by omega)] at c_10; exact absurd c_10 (nI_pos (by omega))
        subst hp0
        obtain rfl : j = 3 := by omega
        have loop_70 : ∀ (n : Nat) (m9 : Nat) (v2 v3 : Option Value) (τ3 : zIn) (hm : m9 ≤ nm) (hW2 : zFM σ τ3 ∧ zMd g τ3 nm no (zmx (zst2 g st lg (zcb st lg ro) (zcj kd (zcb st lg ro) nm (lf, fun c => if br c then 0 else sp c) 3).1 (zoE ca co (zcb st lg ro) ia) hc fb) st m9) (zmx (zia2 ia (zcb st lg ro) (zcj kd (zcb st lg ro) nm (lf, fun c => if br c then 0 else sp c) 3).1 (zoE ca co (zcb st lg ro) ia)) ia m9) (zmx (zlg2 lg (zcb st lg ro) (zcj kd (zcb st lg ro) nm (lf, fun c => if br c then 0 else sp c) 3).1) lg m9) (zmx (zlf2 pd (zcb st lg ro) (zcj kd (zcb st lg ro) nm (lf, fun c => if br c then 0 else sp c) 3).1) (zcj kd (zcb st lg ro) nm (lf, fun c => if br c then 0 else sp c) 3).1 m9)) (hn : nm - m9 < n), z_V p l e (zRm MX8_carryMinute) s m args below meth c 4 D cy z0 0 0 (zQm MX8_carryMinute below D cy z0 (fun v g' σ' => v = none ∧ g' = g ∧ zFM σ σ' ∧ zMd g σ' nm no (zmx (zst2 g st lg (zcb st lg ro) (zcj kd (zcb st lg ro) nm (lf, fun c => if br c then 0 else sp c) 3).1 (zoE ca co (zcb st lg ro) ia) hc fb) st nm) (zmx (zia2 ia (zcb st lg ro) (zcj kd (zcb st lg ro) nm (lf, fun c => if br c then 0 else sp c) 3).1 (zoE ca co (zcb st lg ro) ia)) ia nm) (zmx (zlg2 lg (zcb st lg ro) (zcj kd (zcb st lg ro) nm (lf, fun c => if br c then 0 else sp c) 3).1) lg nm) (zmx (zlf2 pd (zcb st lg ro) (zcj kd (zcb st lg ro) nm (lf, fun c => if br c then 0 else sp c) 3).1) (zcj kd (zcb st lg ro) nm (lf, fun c => if br c then 0 else sp c) 3).1 nm)) args s) 70 [some (.ref (g.2.1 1)), some (.int (nI m9)), v2, v3] [] g τ3 := by
          intro n
          induction n with
          | zero => intro m9 v2 v3 τ3 hm hW2 hn; exact absurd hn (Nat.not_lt_zero _)
          | succ n ih_70 =>
            intro m9 v2 v3 τ3 hm hW2 hn
            have e18 : τ3 1 8 = nI nm := by rw [hW2.1 1 8 (by omega) (by omega)]; exact hnm
            have e134 : τ3 13 4 = nI no := by rw [hW2.1 13 4 (by omega) (by omega)]; exact hno
            have e135 : τ3 13 5 = nI nc := by rw [hW2.1 13 5 (by omega) (by omega)]; exact hnc
            refine z_iload_n X dX8_carryMinute_70 rfl ?_
            refine z_aload_n X dX8_carryMinute_71 rfl ?_
            refine z_geti X fX8_62 (zso_1 hS) rfl dX8_carryMinute_72 ?_
            try simp (disch := omega) only [z_up_app, z_put_app, reduceIte, Nat.reduceEqDiff, e18]
            refine z_icmp_ge (tgt := 110) X dX8_carryMinute_75 (by decide) (fun c_75 => ?_) (fun c_75 => ?_)
            · skip
              try simp (disch := omega) only [zk0, nI_leI, nI_ltI, nI_eq, zbk_notn, zbk_not, zbk_n0, zbk_0, zb_0, zb_n0, zb_not, zb_notn, Bool.not_eq_false, Bool.not_eq_true, Bool.not_eq_true', Bool.not_eq_false', decide_eq_true_eq, decide_eq_false_iff_not, Classical.not_not] at c_75
              refine z_vret X (by decide) (by decide) rfl dX8_carryMinute_110 ?_
              obtain rfl : m9 = nm := by omega
              exact ⟨rfl, rfl, hW2⟩
            · skip
              try simp (disch := omega) only [zk0, nI_leI, nI_ltI, nI_eq, zbk_notn, zbk_not, zbk_n0, zbk_0, zb_0, zb_n0, zb_not, zb_notn, Bool.not_eq_false, Bool.not_eq_true, Bool.not_eq_true', Bool.not_eq_false', decide_eq_true_eq, decide_eq_false_iff_not, Classical.not_not] at c_75
              have hm9 : m9 < nm := by omega
              have hdm := hW2.2 m9 hm9
              simp only [zmx_at] at hdm
              have hM := hG.2.1 m9 hm9
              obtain ⟨w1, w2, w3, w4, w5, w6, w7⟩ := hMs m9 hm9
              have e2 : τ3 (200 + m9) 2 = nI (kd m9) := by rw [hW2.1 _ _ (by omega) (by omega)]; exact w2
              obtain ⟨⟨d1, d2⟩, ⟨d3, d4⟩, ⟨d5, d6, d7⟩, d8, d9⟩ := hdm
              have hz9 : τ3 (200 + m9) 9 = 0 → st m9 = 0 := fun z => by
                rcases Nat.eq_zero_or_pos (st m9) with q | q
                · exact q
                · exact absurd (d1 ▸ z) (nIne0 q (by omega))
              have hleg : τ3 (200 + m9) 9 = 0 → ∃ q, q < g.2.2.2.1 (500 + m9) ∧ τ3 (200 + m9) 11 = nI q := fun z => ⟨lg m9, d7 (hz9 z), d5⟩
              refine z_aload_n X dX8_carryMinute_78 rfl ?_
              refine z_iload_n X dX8_carryMinute_79 rfl ?_
              refine z_runV X kX8_227 (tX8_messageAt m9 hS hG e18 hm9) (zso_1 hS) rfl rfl (Nat.le_of_ble_eq_true rfl) ⟨by decide, by decide⟩ ⟨by decide, by decide⟩ dX8_carryMinute_80 ?_
              rintro _ g1 s1 ⟨rfl, h8, h9⟩
              replace h8 := h8.symm
              subst h8
              replace h9 := h9.symm
              subst h9
              refine z_astore_n X dX8_carryMinute_83 (by decide) ?_
              refine z_aload_n X dX8_carryMinute_84 rfl ?_
              refine z_ifnull X dX8_carryMinute_85 ?_
              refine z_aload_n X dX8_carryMinute_88 rfl ?_
              refine z_aload_n X dX8_carryMinute_89 rfl ?_
              refine z_aload_n X dX8_carryMinute_90 rfl ?_
              refine z_getr2 X fX8_35 (zso_1 hS) (zsr_1_3 hS) rfl dX8_carryMinute_91 ?_
              refine z_aload_n X dX8_carryMinute_94 rfl ?_
              refine z_runV X kX8_281 (tX3_cableNow hG hm9 w1 hleg) (hM.1) rfl rfl (Nat.le_of_ble_eq_true rfl) ⟨by decide, by decide⟩ ⟨by decide, by decide⟩ dX8_carryMinute_95 ?_
              rintro _ g1 s1 ⟨rfl, h8, h9⟩
              replace h8 := h8.symm
              subst h8
              replace h9 := h9.symm
              subst h9
              rcases hcb m9 hm9 with ⟨hs0, hcl, hce⟩ | ⟨hs0, hce⟩
              · skip
                rw [if_pos (show τ3 (200 + m9) 9 = 0 by rw [d1, hs0]; rfl), d5, nI_clamp (by omega), hW2.1 (500 + m9) _ (by omega) (by omega), (w7 (lg m9) (d7 hs0)).1, ← hce]
                have hC := hK.2.1 (zcb st lg ro m9) hcl
                have hx0 : τ3 (120 + zcb st lg ro m9) 0 = nI (ca (zcb st lg ro m9)) := by rw [hW2.1 _ _ (by omega) (by omega)]; exact (hCs _ hcl).1.1
                have hx1 : τ3 (120 + zcb st lg ro m9) 1 = nI (co (zcb st lg ro m9)) := by rw [hW2.1 _ _ (by omega) (by omega)]; exact (hCs _ hcl).2.1.1
                have hx2 := (hCs _ hcl).1.2
                have hx3 := (hCs _ hcl).2.1.2
                have hoe : (if nI (ia m9) = τ3 (120 + zcb st lg ro m9) 0 then τ3 (120 + zcb st lg ro m9) 1 else τ3 (120 + zcb st lg ro m9) 0) = nI (zoE ca co (zcb st lg ro) ia m9) := by
                  rw [hx0, hx1]; unfold zoE
                  by_cases e : ia m9 = ca (zcb st lg ro m9)
                  · rw [if_pos e, if_pos (by rw [e])]
                  · rw [if_neg e, if_neg (fun q => e ((nI_eq (by omega) (by omega)).mp q))]
                have hoe2 : zoE ca co (zcb st lg ro) ia m9 < no := by unfold zoE; split <;> omega
                refine z_runV X kX8_152 (tX4_cableAt (zcb st lg ro m9) hS hK e135 hcl) (zso_13 hS) rfl rfl (Nat.le_of_ble_eq_true rfl) ⟨by decide, by decide⟩ ⟨by decide, by decide⟩ dX8_carryMinute_98 ?_
                rintro _ g1 s1 ⟨rfl, h8, h9⟩
                replace h8 := h8.symm
                subst h8
                replace h9 := h9.symm
                subst h9
                refine z_runV X kX8_362 (tX8_moveOn (oe := zoE ca co (zcb st lg ro) ia m9) (hc := hc m9) (fb := fb (zoE ca co (zcb st lg ro) ia m9)) hS hO e134 hG hm9 hC.1 (by omega) d8 (by omega) d3 hoe hoe2 (by rw [hW2.1 _ _ (by omega) (by omega)]; exact w6) (by rw [hW2.1 _ _ (by omega) (by omega)]; exact hfb _ hoe2) d5 (by omega) w1) (zso_1 hS) rfl rfl (Nat.le_of_ble_eq_true rfl) ⟨by decide, by decide⟩ ⟨by decide, by decide⟩ dX8_carryMinute_101 ?_
                rintro _ g1 s1 ⟨rfl, h8, h9⟩
                replace h8 := h8.symm
                subst h8
                replace h9 := h9.symm
                subst h9
                refine z_inc1 X dX8_carryMinute_104 rfl (by decide) ?_
                refine z_goto (tgt := 70) X dX8_carryMinute_107 (by decide) ?_
                first
                  | (refine ih_70 (m9 + 1) _ _ _ (by omega) ?_ (by omega)
                     by_cases e0 : (zcj kd (zcb st lg ro) nm (lf, fun c => if br c then 0 else sp c) 3).1 m9 = 0
                     · rw [if_pos e0]
                       exact ⟨zFM_come hW2.1 (by omega), zMv_y hW2.2 hm9 hs0 w1 ⟨by omega, e0⟩ hoe2 (by rw [hW2.1 _ _ (by omega) (by omega)]; exact w4) w5⟩
                     · rw [if_neg e0]
                       exact ⟨hW2.1, zMv_no hW2.2 hm9 (fun q => e0 q.2)⟩)
                  | (exact ih_70 (m9 + 1) _ _ _ (by omega) ⟨hW2.1, zMv_no hW2.2 hm9 (fun q => absurd q.1 (by rw [hce]; decide))⟩ (by omega))
              · skip
                rw [if_neg (show ¬ τ3 (200 + m9) 9 = 0 by rw [d1]; exact nIne0 (by omega) (by omega))]
                refine z_runV X kX8_152 (tX4_cableAtN (-1) hS hK e135 zin_m1) (zso_13 hS) rfl rfl (Nat.le_of_ble_eq_true rfl) ⟨by decide, by decide⟩ ⟨by decide, by decide⟩ dX8_carryMinute_98 ?_
                rintro _ g1 s1 ⟨rfl, h8, h9⟩
                replace h8 := h8.symm
                subst h8
                replace h9 := h9.symm
                subst h9
                refine z_runV X kX8_362 (tX8_moveOnN) (zso_1 hS) rfl rfl (Nat.le_of_ble_eq_true rfl) ⟨by decide, by decide⟩ ⟨by decide, by decide⟩ dX8_carryMinute_101 ?_
                rintro _ g1 s1 ⟨rfl, h8, h9⟩
                replace h8 := h8.symm
                subst h8
                replace h9 := h9.symm
                subst h9
                refine z_inc1 X dX8_carryMinute_104 rfl (by decide) ?_
                refine z_goto (tgt := 70) X dX8_carryMinute_107 (by decide) ?_
                first
                  | (refine ih_70 (m9 + 1) _ _ _ (by omega) ?_ (by omega)
                     by_cases e0 : (zcj kd (zcb st lg ro) nm (lf, fun c => if br c then 0 else sp c) 3).1 m9 = 0
                     · rw [if_pos e0]
                       exact ⟨zFM_come hW2.1 (by omega), zMv_y hW2.2 hm9 hs0 w1 ⟨by omega, e0⟩ hoe2 (by rw [hW2.1 _ _ (by omega) (by omega)]; exact w4) w5⟩
                     · rw [if_neg e0]
                       exact ⟨hW2.1, zMv_no hW2.2 hm9 (fun q => e0 q.2)⟩)
                  | (exact ih_70 (m9 + 1) _ _ _ (by omega) ⟨hW2.1, zMv_no hW2.2 hm9 (fun q => absurd q.1 (by rw [hce]; decide))⟩ (by omega))
        refine z_iconst (v := nI 0) X (by decide) dX8_carryMinute_68 ?_
        refine z_istore_n X dX8_carryMinute_69 (by decide) ?_
        exact loop_70 (nm - 0 + 1) 0 _ _ τ (Nat.zero_le _) ⟨hW.1, by simp only [zmx_0]; exact hW.2.1⟩ (by omega)
      · skip
        have hp0 : k1 ≠ 0 := by
          intro h; subst h; exact c_10 (by decide)
        obtain ⟨k, rfl⟩ : ∃ q, k1 = q + 1 := ⟨k1 - 1, by omega⟩
        rw [show nI (k + 1) - nI 1 = nI k from by rw [pk_sub (by omega), Nat.add_sub_cancel]]
        have ek : 2 - j = k := by omega
        have loop_15 : ∀ (n : Nat) (m9 : Nat) (v3 : Option Value) (τ2 : zIn) (hm : m9 ≤ nm) (hW2 : zWc g σ τ2 nm no nc st ia lg (zcy kd (zcb st lg ro) k m9 (zcj kd (zcb st lg ro) nm (lf, fun c => if br c then 0 else sp c) j))) (hn : nm - m9 < n), z_V p l e (zRm MX8_carryMinute) s m args below meth c 4 D cy z0 0 0 (zQm MX8_carryMinute below D cy z0 (fun v g' σ' => v = none ∧ g' = g ∧ zFM σ σ' ∧ zMd g σ' nm no (zmx (zst2 g st lg (zcb st lg ro) (zcj kd (zcb st lg ro) nm (lf, fun c => if br c then 0 else sp c) 3).1 (zoE ca co (zcb st lg ro) ia) hc fb) st nm) (zmx (zia2 ia (zcb st lg ro) (zcj kd (zcb st lg ro) nm (lf, fun c => if br c then 0 else sp c) 3).1 (zoE ca co (zcb st lg ro) ia)) ia nm) (zmx (zlg2 lg (zcb st lg ro) (zcj kd (zcb st lg ro) nm (lf, fun c => if br c then 0 else sp c) 3).1) lg nm) (zmx (zlf2 pd (zcb st lg ro) (zcj kd (zcb st lg ro) nm (lf, fun c => if br c then 0 else sp c) 3).1) (zcj kd (zcb st lg ro) nm (lf, fun c => if br c then 0 else sp c) 3).1 nm)) args s) 15 [some (.ref (g.2.1 1)), some (.int (nI k)), some (.int (nI m9)), v3] [] g τ2 := by
          intro n
          induction n with
          | zero => intro m9 v3 τ2 hm hW2 hn; exact absurd hn (Nat.not_lt_zero _)
          | succ n ih_15 =>
            intro m9 v3 τ2 hm hW2 hn
            have e18 : τ2 1 8 = nI nm := by rw [hW2.1 1 8 (by omega) (by omega)]; exact hnm
            have e134 : τ2 13 4 = nI no := by rw [hW2.1 13 4 (by omega) (by omega)]; exact hno
            have e135 : τ2 13 5 = nI nc := by rw [hW2.1 13 5 (by omega) (by omega)]; exact hnc
            refine z_iload_n X dX8_carryMinute_15 rfl ?_
            refine z_aload_n X dX8_carryMinute_16 rfl ?_
            refine z_geti X fX8_62 (zso_1 hS) rfl dX8_carryMinute_17 ?_
            try simp (disch := omega) only [z_up_app, z_put_app, reduceIte, Nat.reduceEqDiff, e18]
            refine z_icmp_ge (tgt := 62) X dX8_carryMinute_20 (by decide) (fun c_20 => ?_) (fun c_20 => ?_)
            · skip
              try simp (disch := omega) only [zk0, nI_leI, nI_ltI, nI_eq, zbk_notn, zbk_not, zbk_n0, zbk_0, zb_0, zb_n0, zb_not, zb_notn, Bool.not_eq_false, Bool.not_eq_true, Bool.not_eq_true', Bool.not_eq_false', decide_eq_true_eq, decide_eq_false_iff_not, Classical.not_not] at c_20
              refine z_iinc (v := -1) X dX8_carryMinute_62 rfl (by decide) (by decide) ?_
              refine z_goto (tgt := 9) X dX8_carryMinute_65 (by decide) ?_
              rw [zm1]
              exact ih_9 k (j + 1) _ _ τ2 (by omega) (by
                obtain rfl : m9 = nm := by omega
                show zWc g σ τ2 _ no nc st ia lg (zcy kd (zcb st lg ro) (2 - j) _ _)
                rw [ek]; exact hW2) (by omega)
            · skip
              try simp (disch := omega) only [zk0, nI_leI, nI_ltI, nI_eq, zbk_notn, zbk_not, zbk_n0, zbk_0, zb_0, zb_n0, zb_not, zb_notn, Bool.not_eq_false, Bool.not_eq_true, Bool.not_eq_true', Bool.not_eq_false', decide_eq_true_eq, decide_eq_false_iff_not, Classical.not_not] at c_20
              have hm9 : m9 < nm := by omega
              have hdm := hW2.2.1 m9 hm9
              have hM := hG.2.1 m9 hm9
              obtain ⟨w1, w2, w3, w4, w5, w6, w7⟩ := hMs m9 hm9
              have e2 : τ2 (200 + m9) 2 = nI (kd m9) := by rw [hW2.1 _ _ (by omega) (by omega)]; exact w2
              obtain ⟨⟨d1, d2⟩, ⟨d3, d4⟩, ⟨d5, d6, d7⟩, d8, d9⟩ := hdm
              have hz9 : τ2 (200 + m9) 9 = 0 → st m9 = 0 := fun z => by
                rcases Nat.eq_zero_or_pos (st m9) with q | q
                · exact q
                · exact absurd (d1 ▸ z) (nIne0 q (by omega))
              have hleg : τ2 (200 + m9) 9 = 0 → ∃ q, q < g.2.2.2.1 (500 + m9) ∧ τ2 (200 + m9) 11 = nI q := fun z => ⟨lg m9, d7 (hz9 z), d5⟩
              refine z_aload_n X dX8_carryMinute_23 rfl ?_
              refine z_iload_n X dX8_carryMinute_24 rfl ?_
              refine z_runV X kX8_227 (tX8_messageAt m9 hS hG e18 hm9) (zso_1 hS) rfl rfl (Nat.le_of_ble_eq_true rfl) ⟨by decide, by decide⟩ ⟨by decide, by decide⟩ dX8_carryMinute_25 ?_
              rintro _ g1 s1 ⟨rfl, h8, h9⟩
              replace h8 := h8.symm
              subst h8
              replace h9 := h9.symm
              subst h9
              refine z_astore_n X dX8_carryMinute_28 (by decide) ?_
              refine z_aload_n X dX8_carryMinute_29 rfl ?_
              refine z_ifnull X dX8_carryMinute_30 ?_
              refine z_aload_n X dX8_carryMinute_33 rfl ?_
              refine z_geti X fX8_355 (hM.1) rfl dX8_carryMinute_34 ?_
              try simp (disch := omega) only [z_up_app, z_put_app, reduceIte, Nat.reduceEqDiff, e2]
              refine z_iload_n X dX8_carryMinute_37 rfl ?_
              refine z_icmp_ne (tgt := 56) X dX8_carryMinute_38 (by decide) (fun c_38 => ?_) (fun c_38 => ?_)
              · skip
                try simp (disch := omega) only [zk0, nI_leI, nI_ltI, nI_eq, zbk_notn, zbk_not, zbk_n0, zbk_0, zb_0, zb_n0, zb_not, zb_notn, Bool.not_eq_false, Bool.not_eq_true, Bool.not_eq_true', Bool.not_eq_false', decide_eq_true_eq, decide_eq_false_iff_not, Classical.not_not] at c_38
                refine z_inc1 X dX8_carryMinute_56 rfl (by decide) ?_
                refine z_goto (tgt := 15) X dX8_carryMinute_59 (by decide) ?_
                first
                  | (exact ih_15 (m9 + 1) _ _ (by omega) (by rw [zcy_y c_38]; exact zWc_step hW2 (by omega) (by omega) hm9 hcl) (by omega))
                  | (exact ih_15 (m9 + 1) _ _ (by omega) (by rw [zcy_y c_38]; exact zWc_skip hW2 (by rw [hce]; decide)) (by omega))
                  | (exact ih_15 (m9 + 1) _ _ (by omega) (by rw [zcy_n c_38]; exact hW2) (by omega))
              · skip
                try simp (disch := omega) only [zk0, nI_leI, nI_ltI, nI_eq, zbk_notn, zbk_not, zbk_n0, zbk_0, zb_0, zb_n0, zb_not, zb_notn, Bool.not_eq_false, Bool.not_eq_true, Bool.not_eq_true', Bool.not_eq_false', decide_eq_true_eq, decide_eq_false_iff_not, Classical.not_not] at c_38
                refine z_aload_n X dX8_carryMinute_41 rfl ?_
                refine z_aload_n X dX8_carryMinute_42 rfl ?_
                refine z_getr2 X fX8_35 (zso_1 hS) (zsr_1_3 hS) rfl dX8_carryMinute_43 ?_
                refine z_aload_n X dX8_carryMinute_46 rfl ?_
                refine z_runV X kX8_281 (tX3_cableNow hG hm9 w1 hleg) (hM.1) rfl rfl (Nat.le_of_ble_eq_true rfl) ⟨by decide, by decide⟩ ⟨by decide, by decide⟩ dX8_carryMinute_47 ?_
                rintro _ g1 s1 ⟨rfl, h8, h9⟩
                replace h8 := h8.symm
                subst h8
                replace h9 := h9.symm
                subst h9
                rcases hcb m9 hm9 with ⟨hs0, hcl, hce⟩ | ⟨hs0, hce⟩
                · skip
                  rw [if_pos (show τ2 (200 + m9) 9 = 0 by rw [d1, hs0]; rfl), d5, nI_clamp (by omega), hW2.1 (500 + m9) _ (by omega) (by omega), (w7 (lg m9) (d7 hs0)).1, ← hce]
                  have hC := hK.2.1 (zcb st lg ro m9) hcl
                  refine z_runV X kX8_152 (tX4_cableAt (zcb st lg ro m9) hS hK e135 hcl) (zso_13 hS) rfl rfl (Nat.le_of_ble_eq_true rfl) ⟨by decide, by decide⟩ ⟨by decide, by decide⟩ dX8_carryMinute_50 ?_
                  rintro _ g1 s1 ⟨rfl, h8, h9⟩
                  replace h8 := h8.symm
                  subst h8
                  replace h9 := h9.symm
                  subst h9
                  refine z_runS X kX8_358 (tX8_carry hM.1 hC.1 (by omega) d8 (by omega) (hW2.2.2 _ hcl).1 (by have := (hW2.2.2 _ hcl).2; omega)) rfl rfl (Nat.le_of_ble_eq_true rfl) ⟨by decide, by decide⟩ ⟨by decide, by decide⟩ dX8_carryMinute_53 ?_
                  rintro _ g1 s1 ⟨rfl, h8, h9⟩
                  replace h8 := h8.symm
                  subst h8
                  replace h9 := h9.symm
                  subst h9
                  refine z_inc1 X dX8_carryMinute_56 rfl (by decide) ?_
                  refine z_goto (tgt := 15) X dX8_carryMinute_59 (by decide) ?_
                  first
                    | (exact ih_15 (m9 + 1) _ _ (by omega) (by rw [zcy_y c_38]; exact zWc_step hW2 (by omega) (by omega) hm9 hcl) (by omega))
                    | (exact ih_15 (m9 + 1) _ _ (by omega) (by rw [zcy_y c_38]; exact zWc_skip hW2 (by rw [hce]; decide)) (by omega))
                    | (exact ih_15 (m9 + 1) _ _ (by omega) (by rw [zcy_n c_38]; exact hW2) (by omega))
                · skip
                  rw [if_neg (show ¬ τ2 (200 + m9) 9 = 0 by rw [d1]; exact nIne0 (by omega) (by omega))]
                  refine z_runV X kX8_152 (tX4_cableAtN (-1) hS hK e135 zin_m1) (zso_13 hS) rfl rfl (Nat.le_of_ble_eq_true rfl) ⟨by decide, by decide⟩ ⟨by decide, by decide⟩ dX8_carryMinute_50 ?_
                  rintro _ g1 s1 ⟨rfl, h8, h9⟩
                  replace h8 := h8.symm
                  subst h8
                  replace h9 := h9.symm
                  subst h9
                  refine z_runS X kX8_358 (tX8_carryN) rfl rfl (Nat.le_of_ble_eq_true rfl) ⟨by decide, by decide⟩ ⟨by decide, by decide⟩ dX8_carryMinute_53 ?_
                  rintro _ g1 s1 ⟨rfl, h8, h9⟩
                  replace h8 := h8.symm
                  subst h8
                  replace h9 := h9.symm
                  subst h9
                  refine z_inc1 X dX8_carryMinute_56 rfl (by decide) ?_
                  refine z_goto (tgt := 15) X dX8_carryMinute_59 (by decide) ?_
                  first
                    | (exact ih_15 (m9 + 1) _ _ (by omega) (by rw [zcy_y c_38]; exact zWc_step hW2 (by omega) (by omega) hm9 hcl) (by omega))
                    | (exact ih_15 (m9 + 1) _ _ (by omega) (by rw [zcy_y c_38]; exact zWc_skip hW2 (by rw [hce]; decide)) (by omega))
                    | (exact ih_15 (m9 + 1) _ _ (by omega) (by rw [zcy_n c_38]; exact hW2) (by omega))
        refine z_iconst (v := nI 0) X (by decide) dX8_carryMinute_13 ?_
        refine z_istore_n X dX8_carryMinute_14 (by decide) ?_
        exact loop_15 (nm - 0 + 1) 0 _ τ (Nat.zero_le _) hW (by omega)
  refine z_aload_n X dX8_carryMinute_0 rfl ?_
  refine z_getr2 X fX8_35 (zso_1 hS) (zsr_1_3 hS) rfl dX8_carryMinute_1 ?_
  refine z_runV X kX8_352 (tX4_startMinute (sp := sp) (br := br) hS hK hnc (fun c hc => ⟨(hCs c hc).2.2.1.1, (hCs c hc).2.2.2⟩)) (zso_13 hS) rfl rfl (Nat.le_of_ble_eq_true rfl) ⟨by decide, by decide⟩ ⟨by decide, by decide⟩ dX8_carryMinute_4 ?_
  rintro _ g1 s5 ⟨rfl, h8, h5, hr5⟩
  replace h8 := h8.symm
  subst h8
  refine z_iconst (v := nI 2) X (by decide) dX8_carryMinute_7 ?_
  refine z_istore_n X dX8_carryMinute_8 (by decide) ?_
  have h9 := loop_9 (3 + 1) 3 0 none none s5 rfl ⟨fun i k n1 n2 => h5 i k n2, fun m9 hm => by
    have h5m : ∀ k, s5 (200 + m9) k = σ (200 + m9) k := fun k => h5 _ k (by omega)
    simp only [h5m]; exact hMd m9 hm, fun c hc => ⟨hr5 c hc, by
    have := (hCs c hc).2.2.1.2
    show (if br c then 0 else sp c) ≤ 1000
    split <;> omega⟩⟩ (by omega)
  rw [show nI 3 - nI 1 = nI 2 from by decide] at h9
  exact h9
