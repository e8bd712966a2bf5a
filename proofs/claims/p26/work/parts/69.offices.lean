/-! the law: offices -/
theorem zDf_same {σ2 κ κ1 : zIn} {n : Nat → Nat} (h : zDf σ2 κ n) (e : ∀ k, κ1 4 k = κ 4 k) : zDf σ2 κ1 n := by
  obtain ⟨h0, h3, h4, d0, d1, d2, d3, d4, d5, d8⟩ := h
  exact ⟨h0, h3, h4, d0, d1, d2, d3, d4, d5, fun k hk => (d8 k hk).trans (e k).symm⟩
theorem zDf_5 {σ2 κ κ1 : zIn} {n : Nat → Nat} {c : Nat} (h : zDf σ2 κ n) (e : ∀ k, κ1 4 k = κ 4 k) : zDf (z_up σ2 1 4 (nI c)) κ1 (zud n 5 c) := by
  obtain ⟨h0, h3, h4, d0, d1, d2, d3, d4, d5, d8⟩ := h
  have e2 : ∀ k, k ≠ 4 → z_up σ2 1 4 (nI c) 1 k = σ2 1 k := fun k hk => by simp [z_up, hk]
  exact ⟨h0, h3, h4, (e2 0 (by decide)).trans d0, (e2 1 (by decide)).trans d1, (e2 2 (by decide)).trans d2, (e2 3 (by decide)).trans d3, by simp [z_up, zud], (e2 5 (by decide)).trans d5, fun k hk => (e2 (8 + k) (by omega)).trans ((d8 k hk).trans (e k).symm)⟩
theorem zud_id {n : Nat → Nat} {k : Nat} : zud n k (n k) = n := by
  funext i; unfold zud; by_cases q : i = k
  · rw [if_pos q, q]
  · rw [if_neg q]
theorem zup_4 {κ : zIn} {i j : Nat} {v : Int32} (h : 4 ≠ i) (k : Nat) : z_up κ i j v 4 k = κ 4 k := by simp [z_up, h]
theorem zlt_0 {k : Nat} (h : k < 2 ^ 31) : ¬ nI k < 0 := nI_not_neg h
theorem zx_key_0 {no o y : Nat} (ho : o < no) (hno : no < 2 ^ 31) (hy : y ≤ 39) : zx_key no (nI o) (nI y) = 0 := by
  unfold zx_key
  rw [if_neg (fun q => q (zin_l ho hno)), if_neg]
  rintro (q | q)
  · exact nI_not_neg (by omega) q
  · have q2 : nI 39 < nI y := q
    rw [nI_ltI (by omega) (by omega)] at q2; omega
theorem zx_key_2 {no o : Nat} (ho : o < no) (hno : no < 2 ^ 31) : zx_key no (nI o) (nI 40) = 2 := (if_neg (fun q => q (zin_l ho hno))).trans (if_pos (by decide))
theorem zx_in_0 {no o : Nat} (ho : o < no) (hno : no < 2 ^ 31) : zx_in no (nI o) = 0 := if_pos (zin_l ho hno)
theorem zx_cnf {nu a b c e : Nat} (ha : a < 4) (hb : b < 16) (hc : c < 3) (he : e < 3) : zx_conf nu (nI a) (nI (5 + b)) (nI (5 + 5 * c)) (nI e) = if nu = 12 then 2 else 0 := by
  have l : ∀ {x y : Nat}, x ≤ y → y < 2 ^ 31 → ¬ nI y < nI x := fun {x y} h1 h2 q => by rw [nI_ltI h2 (by omega)] at q; omega
  unfold zx_conf
  refine if_neg ?_
  rintro ((q | q) | (q | q) | q | (q | q))
  · exact l (x := 0) (by omega) (by omega) q
  · exact l (y := 1000) (by omega) (by omega) q
  · exact l (x := 5) (by omega) (by omega) q
  · exact l (y := 20) (by omega) (by omega) q
  · rcases (show c = 0 ∨ c = 1 ∨ c = 2 by omega) with rfl | rfl | rfl
    · exact q.1 (by decide)
    · exact q.2.1 (by decide)
    · exact q.2.2 (by decide)
  · exact l (x := 0) (by omega) (by omega) q
  · exact l (y := 3) (by omega) (by omega) q
theorem zk_cnf {κ : zIn} {n : Nat → Nat} {a b c e : Nat} {r : Int32} {κ' : zIn} {n' : Nat → Nat} (ha : a < 4) (hb : b < 16) (hc : c < 3) (he : e < 3) (h : zk_conf κ n (nI a) (nI (5 + b)) (nI (5 + 5 * c)) (nI e) r κ' n') : (r = nI (n 5 + 1) ∧ (∀ k, κ' 4 k = κ 4 k) ∧ n' = zud n 5 (n 5 + 1)) ∨ (r = -2000000003 ∧ n 5 = 12 ∧ κ' = κ ∧ n' = n) := by
  have hx := zx_cnf (nu := n 5) ha hb hc he
  have hk : zx_conf (n 5) (nI a) (nI (5 + b)) (nI (5 + 5 * c)) (nI e) = 0 ∨ zXk [zIX, zIY] (zx_conf (n 5) (nI a) (nI (5 + b)) (nI (5 + 5 * c)) (nI e)) zIY := by
    rw [hx]
    by_cases q : n 5 = 12
    · rw [if_pos q]; exact Or.inr ⟨1, rfl, rfl⟩
    · rw [if_neg q]; exact Or.inl rfl
  rcases zRk_Y hk h with ⟨k0, rfl, rfl, rfl⟩ | ⟨k0, h1, h2, h3⟩
  · refine Or.inl ⟨rfl, fun k => ?_, rfl⟩
    simp [z_up, z_zero, show ¬ (4 = 140 + n 5) by omega]
  · rw [hx] at k0
    exact Or.inr ⟨h1, Classical.byContradiction (fun q => k0 (if_neg q)), h2, h3⟩
theorem zk_rsv {κ : zIn} {n : Nat → Nat} {o y : Nat} {r : Int32} {κ' : zIn} {n' : Nat → Nat} (hv : zIv κ n) (ho : o < n 3) (hy : 1 ≤ y) (hy2 : y ≤ n 5) (h : zk_reserve κ n (nI o) (nI y) r κ' n') : ∃ t, t ≤ n 5 ∧ r = nI t ∧ (∀ k, κ' 4 k = κ 4 k) ∧ n' = n := by
  have hn3 : n 3 ≤ 8 := hv.2.1.1.2.1
  have hn5 : n 5 ≤ 12 := hv.2.2.1.1.2.1
  have l : ∀ {x y : Nat}, x ≤ y → y < 2 ^ 31 → ¬ nI y < nI x := fun {x y} h1 h2 q => by rw [nI_ltI h2 (by omega)] at q; omega
  have hx : zx_reserve (n 3) (n 5) (nI o) (nI y) = 0 := by
    unfold zx_reserve
    refine if_neg ?_
    rintro (q | q | q)
    · rw [zin_l ho (by omega)] at q; exact absurd q (by decide)
    · exact l (x := 1) (by omega) (by omega) q
    · exact l (x := y) (y := n 5) (by omega) (by omega) q
  obtain ⟨o2, k2, j, a1, a2, a3, a4, a5, rfl, a6, a7, a8⟩ := zRk_0 hx h
  rcases zrat_jr a6 with rfl | ⟨k, hk, rfl⟩
  · exact ⟨0, by omega, a7.trans hv.2.2.1.2.2.2, fun k => zup_4 (by omega) k, a8⟩
  · exact ⟨k + 1, by omega, a7.trans (hv.2.2.1.2.1 k hk).1, fun k => zup_4 (by omega) k, a8⟩
theorem nIn_neg {k : Nat} {y : Int32} (hk : k < 2 ^ 31) (hy : y < 0) : ¬ nI k = y := fun e => nI_not_neg hk (by rw [e]; exact hy)
set_option maxHeartbeats 4000000 in
set_option maxRecDepth 100000 in
theorem tL_offices {l : Launch} {D : va_G} {cy : Nat → ClassId} {z0 : zRg} {ao ai ad : Nat} {κ : zIn} {n : Nat → Nat} {g2 : zSh} {σ2 : zIn} {w : Nat → zSh} {τ : Nat → zIn} {top : Nat} (x z : Int32) (hfl : l.stackTraces = false) (hL : zLc ao ai ad κ n g2 σ2 w τ) (hd : zDf σ2 κ n) (ht7 : n 7 ≤ top) : z_Cn (zc0 NL_offices) l D cy z0 NL_offices [.ref ao, .ref ai, .ref ad, .int x, .int z] (zJg w) (zJs τ) (zStp ao ai ad top) := by
  obtain ⟨h0, h3, h4, hd0, hd1, hd2, hd3, hd4, hd5, hd8⟩ := id hd
  have hn5 : n 5 ≤ 12 := hL.1.K.1.2.1
  have hn6 : n 6 ≤ 60 := hL.1.M.1.2
  refine z_ofN (by decide) (z_cr (z_cr (z_cr (z_ci (z_ci z_c0))))) (Nat.le_of_ble_eq_true rfl) ?_
  intro p e s m args below meth c X Y
  refine z_iload_n X dL_offices_0 rfl ?_
  refine z_bipush (v := nI 9) X (by decide) dL_offices_1 ?_
  refine z_runSn X Y kL_116 (tL_some2 _ 9 (by decide) (by decide)) rfl rfl (Nat.le_of_ble_eq_true rfl) ⟨by decide, by decide⟩ ⟨by decide, by decide⟩ dL_offices_3 ?_
  rintro _ _ _ ⟨s5, hs5, rfl, rfl, rfl⟩
  refine z_istore X dL_offices_6 (by decide) ?_
  refine z_iload X dL_offices_8 rfl ?_
  refine z_aload_n X dL_offices_10 rfl ?_
  refine z_iconst (v := nI 0) X (by decide) dL_offices_11 ?_
  refine z_ialda X hL.ar hL.da (by omega) (by omega) dL_offices_12 ?_
  rw [hL.sd]
  rw [hd0]
  refine z_runSn X Y kL_116 (tL_some2 _ (n 3) (by omega) (by omega)) rfl rfl (Nat.le_of_ble_eq_true rfl) ⟨by decide, by decide⟩ ⟨by decide, by decide⟩ dL_offices_13 ?_
  rintro _ _ _ ⟨s6, hs6, rfl, rfl, rfl⟩
  refine z_istore X dL_offices_16 (by decide) ?_
  refine z_iload X dL_offices_18 rfl ?_
  refine z_iconst (v := nI 2) X (by decide) dL_offices_20 ?_
  refine z_icmp_ge (tgt := 84) X dL_offices_21 (by decide) (fun c_21 => ?_) (fun c_21 => ?_)
  · skip
    try simp (disch := omega) only [zk0, nI_leI, nI_ltI, nI_eq, zbk_notn, zbk_not, zbk_n0, zbk_0, zb_0, zb_n0, zb_not, zb_notn, Bool.not_eq_false, Bool.not_eq_true, Bool.not_eq_true', Bool.not_eq_false', decide_eq_true_eq, decide_eq_false_iff_not, Classical.not_not] at c_21
    have hv := hL.1.2.2.2
    refine z_iload X dL_offices_84 rfl ?_
    refine z_iconst (v := nI 4) X (by decide) dL_offices_86 ?_
    refine z_icmp_ge (tgt := 129) X dL_offices_87 (by decide) (fun c_87 => ?_) (fun c_87 => ?_)
    · skip
      try simp (disch := omega) only [zk0, nI_leI, nI_ltI, nI_eq, zbk_notn, zbk_not, zbk_n0, zbk_0, zb_0, zb_n0, zb_not, zb_notn, Bool.not_eq_false, Bool.not_eq_true, Bool.not_eq_true', Bool.not_eq_false', decide_eq_true_eq, decide_eq_false_iff_not, Classical.not_not] at c_87
      refine z_iload X dL_offices_129 rfl ?_
      refine z_iconst (v := nI 5) X (by decide) dL_offices_131 ?_
      refine z_icmp_ge (tgt := 237) X dL_offices_132 (by decide) (fun c_132 => ?_) (fun c_132 => ?_)
      · skip
        try simp (disch := omega) only [zk0, nI_leI, nI_ltI, nI_eq, zbk_notn, zbk_not, zbk_n0, zbk_0, zb_0, zb_n0, zb_not, zb_notn, Bool.not_eq_false, Bool.not_eq_true, Bool.not_eq_true', Bool.not_eq_false', decide_eq_true_eq, decide_eq_false_iff_not, Classical.not_not] at c_132
        refine z_iload X dL_offices_237 rfl ?_
        refine z_bipush (v := nI 6) X (by decide) dL_offices_239 ?_
        refine z_icmp_ge (tgt := 331) X dL_offices_241 (by decide) (fun c_241 => ?_) (fun c_241 => ?_)
        · skip
          try simp (disch := omega) only [zk0, nI_leI, nI_ltI, nI_eq, zbk_notn, zbk_not, zbk_n0, zbk_0, zb_0, zb_n0, zb_not, zb_notn, Bool.not_eq_false, Bool.not_eq_true, Bool.not_eq_true', Bool.not_eq_false', decide_eq_true_eq, decide_eq_false_iff_not, Classical.not_not] at c_241
          refine z_iload X dL_offices_331 rfl ?_
          refine z_aload_n X dL_offices_333 rfl ?_
          refine z_iconst (v := nI 1) X (by decide) dL_offices_334 ?_
          refine z_ialda X hL.ar hL.da (by omega) (by omega) dL_offices_335 ?_
          rw [hL.sd]
          rw [hd1]
          refine z_runSn X Y kL_116 (tL_some2 _ (n 4) (by omega) (by omega)) rfl rfl (Nat.le_of_ble_eq_true rfl) ⟨by decide, by decide⟩ ⟨by decide, by decide⟩ dL_offices_336 ?_
          rintro _ _ _ ⟨c9, hc9, rfl, rfl, rfl⟩
          refine z_istore X dL_offices_339 (by decide) ?_
          refine z_iconst (v := nI 0) X (by decide) dL_offices_341 ?_
          refine z_istore X dL_offices_342 (by decide) ?_
          have loop_347 : ∀ (n9 : Nat) (k : Nat) (w : Nat → zSh) (τ : Nat → zIn) (hk : k ≤ n 6) (hL : zLc ao ai ad κ n g2 σ2 w τ) (hn : n 6 - k < n9), z_V p l e (zRm NL_offices) s m args below meth c 10 D cy z0 0 0 (zQm NL_offices below D cy z0 (zStp ao ai ad top) args s) 347 [some (.ref ao), some (.ref ai), some (.ref ad), some (.int x), some (.int z), some (.int (nI s5)), some (.int (nI s6)), some (.int (nI c9)), some (.int (nI (zcnt (fun m => zcab κ m = nI c9) k))), some (.int (nI k))] [] (zJg w) (zJs τ) := by
            intro n9
            induction n9 with
            | zero => intro k w τ hk hL hn; exact absurd hn (Nat.not_lt_zero _)
            | succ n9 ih_347 =>
              intro k w τ hk hL hn
              have hzk := zcnt_le (fun m => zcab κ m = nI c9) k
              refine z_iload X dL_offices_347 rfl ?_
              refine z_aload_n X dL_offices_349 rfl ?_
              refine z_iconst (v := nI 3) X (by decide) dL_offices_350 ?_
              refine z_ialda X hL.ar hL.da (by omega) (by omega) dL_offices_351 ?_
              rw [hL.sd]
              rw [hd3]
              refine z_icmp_ge (tgt := 383) X dL_offices_352 (by decide) (fun c_352 => ?_) (fun c_352 => ?_)
              · skip
                try simp (disch := omega) only [zk0, nI_leI, nI_ltI, nI_eq, zbk_notn, zbk_not, zbk_n0, zbk_0, zb_0, zb_n0, zb_not, zb_notn, Bool.not_eq_false, Bool.not_eq_true, Bool.not_eq_true', Bool.not_eq_false', decide_eq_true_eq, decide_eq_false_iff_not, Classical.not_not] at c_352
                have ek : k = n 6 := by omega
                subst ek
                refine z_aload_n X dL_offices_383 rfl ?_
                refine z_aload_n X dL_offices_384 rfl ?_
                refine z_bipush (v := nI 6) X (by decide) dL_offices_385 ?_
                refine z_iload X dL_offices_387 rfl ?_
                refine z_iload X dL_offices_389 rfl ?_
                refine z_iconst (v := nI 5) X (by decide) dL_offices_391 ?_
                refine z_ishr X dL_offices_392 ?_
                refine z_iconst (v := nI 4) X (by decide) dL_offices_393 ?_
                refine z_runSn X Y kL_116 (tL_some2 _ 4 (by decide) (by decide)) rfl rfl (Nat.le_of_ble_eq_true rfl) ⟨by decide, by decide⟩ ⟨by decide, by decide⟩ dL_offices_394 ?_
                rintro _ _ _ ⟨s7, hs7, rfl, rfl, rfl⟩
                refine z_if_ne (tgt := 404) X dL_offices_397 (by decide) (fun c_397 => ?_) (fun c_397 => ?_)
                · skip
                  try simp (disch := omega) only [zk0, nI_leI, nI_ltI, nI_eq, zbk_notn, zbk_not, zbk_n0, zbk_0, zb_0, zb_n0, zb_not, zb_notn, Bool.not_eq_false, Bool.not_eq_true, Bool.not_eq_true', Bool.not_eq_false', decide_eq_true_eq, decide_eq_false_iff_not, Classical.not_not] at c_397
                  refine z_iconst (v := nI 0) X (by decide) dL_offices_404 ?_
                  refine z_iconst (v := nI 0) X (by decide) dL_offices_405 ?_
                  refine z_iconst (v := nI 0) X (by decide) dL_offices_406 ?_
                  refine z_iconst (v := nI 0) X (by decide) dL_offices_407 ?_
                  refine z_runSn X Y kL_120 (tL_both (nI 6) (nI c9) _ (nI 0) (nI 0) (nI 0) (zd_broken hL.1.2.2.2 _ _) hL (fun _ _ h z1 => tL_does_6 hfl (zso_1 h.S) _ _ _ _ _ (tC_broken hfl h _ _ (zb_01 _)))) rfl rfl (Nat.le_of_ble_eq_true rfl) ⟨by decide, by decide⟩ ⟨by decide, by decide⟩ dL_offices_408 ?_
                  rintro _ _ _ ⟨r, κ1, n1, w, τ, rfl, hR, rfl, rfl, hL⟩
                  obtain ⟨c2, hc2, ec2, eκ, rfl, e2⟩ := zRk_0 (zx_in_0 hc9 (by omega)) hR
                  replace e2 := e2.symm
                  subst e2
                  have ec3 : c9 = c2 := (nI_eq (by omega) (by omega)).mp ec2
                  subst ec3
                  have hκ : ∀ k, κ1 4 k = κ 4 k := fun k => by rw [eκ]; exact zup_4 (by omega) k
                  refine z_iload X dL_offices_411 rfl ?_
                  refine z_icmp_ne (tgt := 420) X dL_offices_413 (by decide) (fun c_413 => ?_) (fun c_413 => ?_)
                  · exact absurd rfl c_413
                  · skip
                    refine z_iconst (v := nI 1) X (by decide) dL_offices_416 ?_
                    refine z_goto (tgt := 421) X dL_offices_417 (by decide) ?_
                    refine z_zret X (by decide) (by decide) rfl (by first | exact Or.inl rfl | exact Or.inr rfl | exact zb_01 _ | assumption) dL_offices_421 ?_
                    exact ⟨_, _, _, _, w, τ, rfl, rfl, rfl, hL, zDf_same hd hκ, ht7⟩
                · skip
                  try simp (disch := omega) only [zk0, nI_leI, nI_ltI, nI_eq, zbk_notn, zbk_not, zbk_n0, zbk_0, zb_0, zb_n0, zb_not, zb_notn, Bool.not_eq_false, Bool.not_eq_true, Bool.not_eq_true', Bool.not_eq_false', decide_eq_true_eq, decide_eq_false_iff_not, Classical.not_not] at c_397
                  refine z_iconst (v := nI 1) X (by decide) dL_offices_400 ?_
                  refine z_goto (tgt := 405) X dL_offices_401 (by decide) ?_
                  refine z_iconst (v := nI 0) X (by decide) dL_offices_405 ?_
                  refine z_iconst (v := nI 0) X (by decide) dL_offices_406 ?_
                  refine z_iconst (v := nI 0) X (by decide) dL_offices_407 ?_
                  refine z_runSn X Y kL_120 (tL_both (nI 6) (nI c9) _ (nI 0) (nI 0) (nI 0) (zd_broken hL.1.2.2.2 _ _) hL (fun _ _ h z1 => tL_does_6 hfl (zso_1 h.S) _ _ _ _ _ (tC_broken hfl h _ _ (zb_01 _)))) rfl rfl (Nat.le_of_ble_eq_true rfl) ⟨by decide, by decide⟩ ⟨by decide, by decide⟩ dL_offices_408 ?_
                  rintro _ _ _ ⟨r, κ1, n1, w, τ, rfl, hR, rfl, rfl, hL⟩
                  obtain ⟨c2, hc2, ec2, eκ, rfl, e2⟩ := zRk_0 (zx_in_0 hc9 (by omega)) hR
                  replace e2 := e2.symm
                  subst e2
                  have ec3 : c9 = c2 := (nI_eq (by omega) (by omega)).mp ec2
                  subst ec3
                  have hκ : ∀ k, κ1 4 k = κ 4 k := fun k => by rw [eκ]; exact zup_4 (by omega) k
                  refine z_iload X dL_offices_411 rfl ?_
                  refine z_icmp_ne (tgt := 420) X dL_offices_413 (by decide) (fun c_413 => ?_) (fun c_413 => ?_)
                  · exact absurd rfl c_413
                  · skip
                    refine z_iconst (v := nI 1) X (by decide) dL_offices_416 ?_
                    refine z_goto (tgt := 421) X dL_offices_417 (by decide) ?_
                    refine z_zret X (by decide) (by decide) rfl (by first | exact Or.inl rfl | exact Or.inr rfl | exact zb_01 _ | assumption) dL_offices_421 ?_
                    exact ⟨_, _, _, _, w, τ, rfl, rfl, rfl, hL, zDf_same hd hκ, ht7⟩
              · skip
                try simp (disch := omega) only [zk0, nI_leI, nI_ltI, nI_eq, zbk_notn, zbk_not, zbk_n0, zbk_0, zb_0, zb_n0, zb_not, zb_notn, Bool.not_eq_false, Bool.not_eq_true, Bool.not_eq_true', Bool.not_eq_false', decide_eq_true_eq, decide_eq_false_iff_not, Classical.not_not] at c_352
                refine z_iload X dL_offices_355 rfl ?_
                refine z_aload_n X dL_offices_357 rfl ?_
                refine z_iload X dL_offices_358 rfl ?_
                refine z_iconst (v := nI 4) X (by decide) dL_offices_360 ?_
                refine z_runVa X Y aL_85 (tB_of hL (Or.inl ⟨rfl, rfl⟩) k 4 (by omega) (by omega)) (hL.ob (Or.inl ⟨rfl, rfl⟩)) (hL.aq (Or.inl ⟨rfl, rfl⟩)) rfl rfl (Nat.le_of_ble_eq_true rfl) ⟨by decide, by decide⟩ ⟨by decide, by decide⟩ dL_offices_361 ?_
                rintro _ _ _ ⟨w, τ, rfl, rfl, rfl, hL⟩
                rw [show zok κ n k 4 = zcab κ k from rfl]
                refine z_iload X dL_offices_364 rfl ?_
                refine z_icmp_ne (tgt := 373) X dL_offices_366 (by decide) (fun c_366 => ?_) (fun c_366 => ?_)
                · skip
                  refine z_iconst (v := nI 0) X (by decide) dL_offices_373 ?_
                  refine z_iaddN X dL_offices_374 ?_
                  refine z_istore X dL_offices_375 (by decide) ?_
                  refine z_inc1 X dL_offices_377 rfl (by decide) ?_
                  refine z_goto (tgt := 347) X dL_offices_380 (by decide) ?_
                  have e2 := ih_347 (k + 1) w τ (by omega) hL (by omega)
                  first | (rw [zcnt_y (P := fun m => zcab κ m = nI c9) c_366] at e2; exact e2) | (rw [zcnt_n (P := fun m => zcab κ m = nI c9) c_366] at e2; exact e2)
                · skip
                  refine z_iconst (v := nI 1) X (by decide) dL_offices_369 ?_
                  refine z_goto (tgt := 374) X dL_offices_370 (by decide) ?_
                  refine z_iaddN X dL_offices_374 ?_
                  refine z_istore X dL_offices_375 (by decide) ?_
                  refine z_inc1 X dL_offices_377 rfl (by decide) ?_
                  refine z_goto (tgt := 347) X dL_offices_380 (by decide) ?_
                  have e2 := ih_347 (k + 1) w τ (by omega) hL (by omega)
                  first | (rw [zcnt_y (P := fun m => zcab κ m = nI c9) c_366] at e2; exact e2) | (rw [zcnt_n (P := fun m => zcab κ m = nI c9) c_366] at e2; exact e2)
          refine z_iconst (v := nI 0) X (by decide) dL_offices_344 ?_
          refine z_istore X dL_offices_345 (by decide) ?_
          exact loop_347 (n 6 - 0 + 1) 0 w τ (by omega) hL (by omega)
        · skip
          try simp (disch := omega) only [zk0, nI_leI, nI_ltI, nI_eq, zbk_notn, zbk_not, zbk_n0, zbk_0, zb_0, zb_n0, zb_not, zb_notn, Bool.not_eq_false, Bool.not_eq_true, Bool.not_eq_true', Bool.not_eq_false', decide_eq_true_eq, decide_eq_false_iff_not, Classical.not_not] at c_241
          refine z_aload_n X dL_offices_244 rfl ?_
          refine z_iconst (v := nI 4) X (by decide) dL_offices_245 ?_
          refine z_ialda X hL.ar hL.da (by omega) (by omega) dL_offices_246 ?_
          rw [hL.sd]
          rw [hd4]
          refine z_if_ne (tgt := 265) X dL_offices_247 (by decide) (fun c_247 => ?_) (fun c_247 => ?_)
          · skip
            try simp (disch := omega) only [zk0, nI_leI, nI_ltI, nI_eq, zbk_notn, zbk_not, zbk_n0, zbk_0, zb_0, zb_n0, zb_not, zb_notn, Bool.not_eq_false, Bool.not_eq_true, Bool.not_eq_true', Bool.not_eq_false', decide_eq_true_eq, decide_eq_false_iff_not, Classical.not_not] at c_247
            skip
            · skip
              skip
              refine z_aload_n X dL_offices_265 rfl ?_
              refine z_aload_n X dL_offices_266 rfl ?_
              refine z_bipush (v := nI 10) X (by decide) dL_offices_267 ?_
              refine z_iload X dL_offices_269 rfl ?_
              refine z_iconst (v := nI 1) X (by decide) dL_offices_271 ?_
              refine z_iload X dL_offices_272 rfl ?_
              refine z_iconst (v := nI 3) X (by decide) dL_offices_274 ?_
              refine z_ishr X dL_offices_275 ?_
              refine z_aload_n X dL_offices_276 rfl ?_
              refine z_iconst (v := nI 4) X (by decide) dL_offices_277 ?_
              refine z_ialda X hL.ar hL.da (by omega) (by omega) dL_offices_278 ?_
              rw [hL.sd]
              rw [hd4]
              refine z_runSn X Y kL_116 (tL_some2 _ (n 5) (by omega) (by omega)) rfl rfl (Nat.le_of_ble_eq_true rfl) ⟨by decide, by decide⟩ ⟨by decide, by decide⟩ dL_offices_279 ?_
              rintro _ _ _ ⟨s7, hs7, rfl, rfl, rfl⟩
              refine z_iaddN X dL_offices_282 ?_
              refine z_iconst (v := nI 0) X (by decide) dL_offices_283 ?_
              refine z_iconst (v := nI 0) X (by decide) dL_offices_284 ?_
              refine z_iconst (v := nI 0) X (by decide) dL_offices_285 ?_
              refine z_runSn X Y kL_120 (tL_both (nI 10) (nI s6) (nI (1 + s7)) (nI 0) (nI 0) (nI 0) (zd_reserve hL.1.2.2.2 _ _) hL (fun _ _ h z1 => tL_does_10 hfl (zso_1 h.S) _ _ _ _ _ (tC_reserve hfl h _ _))) rfl rfl (Nat.le_of_ble_eq_true rfl) ⟨by decide, by decide⟩ ⟨by decide, by decide⟩ dL_offices_286 ?_
              rintro _ _ _ ⟨r, κ1, n1, w, τ, rfl, hR, rfl, rfl, hL⟩
              obtain ⟨t, ht, rfl, hκ, e2⟩ := zk_rsv hv hs6 (by omega) (by omega) hR
              replace e2 := e2.symm
              subst e2
              have hd9 := zDf_same hd hκ
              refine z_istore X dL_offices_289 (by decide) ?_
              refine z_aload_n X dL_offices_291 rfl ?_
              refine z_iconst (v := nI 4) X (by decide) dL_offices_292 ?_
              refine z_ialda X hL.ar hL.da (by omega) (by omega) dL_offices_293 ?_
              rw [hL.sd]
              rw [hd4]
              refine z_if_ne (tgt := 312) X dL_offices_294 (by decide) (fun c_294 => ?_) (fun c_294 => ?_)
              · skip
                try simp (disch := omega) only [zk0, nI_leI, nI_ltI, nI_eq, zbk_notn, zbk_not, zbk_n0, zbk_0, zb_0, zb_n0, zb_not, zb_notn, Bool.not_eq_false, Bool.not_eq_true, Bool.not_eq_true', Bool.not_eq_false', decide_eq_true_eq, decide_eq_false_iff_not, Classical.not_not] at c_294
                refine z_iload X dL_offices_312 rfl ?_
                refine z_if_lt (tgt := 329) X dL_offices_314 (by decide) (fun c_314 => ?_) (fun c_314 => ?_)
                · skip
                  try simp (disch := omega) only [zk0, nI_leI, nI_ltI, nI_eq, zbk_notn, zbk_not, zbk_n0, zbk_0, zb_0, zb_n0, zb_not, zb_notn, Bool.not_eq_false, Bool.not_eq_true, Bool.not_eq_true', Bool.not_eq_false', decide_eq_true_eq, decide_eq_false_iff_not, Classical.not_not] at c_314
                  (exfalso; omega)
                · skip
                  try simp (disch := omega) only [zk0, nI_leI, nI_ltI, nI_eq, zbk_notn, zbk_not, zbk_n0, zbk_0, zb_0, zb_n0, zb_not, zb_notn, Bool.not_eq_false, Bool.not_eq_true, Bool.not_eq_true', Bool.not_eq_false', decide_eq_true_eq, decide_eq_false_iff_not, Classical.not_not] at c_314
                  refine z_iload X dL_offices_317 rfl ?_
                  refine z_aload_n X dL_offices_319 rfl ?_
                  refine z_iconst (v := nI 4) X (by decide) dL_offices_320 ?_
                  refine z_ialda X hL.ar hL.da (by omega) (by omega) dL_offices_321 ?_
                  rw [hL.sd]
                  rw [hd4]
                  refine z_icmp_gt (tgt := 329) X dL_offices_322 (by decide) (fun c_322 => ?_) (fun c_322 => ?_)
                  · skip
                    try simp (disch := omega) only [zk0, nI_leI, nI_ltI, nI_eq, zbk_notn, zbk_not, zbk_n0, zbk_0, zb_0, zb_n0, zb_not, zb_notn, Bool.not_eq_false, Bool.not_eq_true, Bool.not_eq_true', Bool.not_eq_false', decide_eq_true_eq, decide_eq_false_iff_not, Classical.not_not] at c_322
                    (exfalso; omega)
                  · skip
                    try simp (disch := omega) only [zk0, nI_leI, nI_ltI, nI_eq, zbk_notn, zbk_not, zbk_n0, zbk_0, zb_0, zb_n0, zb_not, zb_notn, Bool.not_eq_false, Bool.not_eq_true, Bool.not_eq_true', Bool.not_eq_false', decide_eq_true_eq, decide_eq_false_iff_not, Classical.not_not] at c_322
                    refine z_iconst (v := nI 1) X (by decide) dL_offices_325 ?_
                    refine z_goto (tgt := 330) X dL_offices_326 (by decide) ?_
                    refine z_zret X (by decide) (by decide) rfl (by first | exact Or.inl rfl | exact Or.inr rfl | exact zb_01 _ | assumption) dL_offices_330 ?_
                    first | exact ⟨_, _, _, _, w, τ, rfl, rfl, rfl, hL, hd9, ht7⟩ | exact ⟨_, _, _, _, w, τ, rfl, rfl, rfl, hL, hd, ht7⟩
              · skip
                try simp (disch := omega) only [zk0, nI_leI, nI_ltI, nI_eq, zbk_notn, zbk_not, zbk_n0, zbk_0, zb_0, zb_n0, zb_not, zb_notn, Bool.not_eq_false, Bool.not_eq_true, Bool.not_eq_true', Bool.not_eq_false', decide_eq_true_eq, decide_eq_false_iff_not, Classical.not_not] at c_294
                (exfalso; omega)
          · skip
            try simp (disch := omega) only [zk0, nI_leI, nI_ltI, nI_eq, zbk_notn, zbk_not, zbk_n0, zbk_0, zb_0, zb_n0, zb_not, zb_notn, Bool.not_eq_false, Bool.not_eq_true, Bool.not_eq_true', Bool.not_eq_false', decide_eq_true_eq, decide_eq_false_iff_not, Classical.not_not] at c_247
            skip
            · skip
              skip
              refine z_aload_n X dL_offices_250 rfl ?_
              refine z_bipush (v := nI 10) X (by decide) dL_offices_251 ?_
              refine z_iload X dL_offices_253 rfl ?_
              refine z_iconst (v := nI 1) X (by decide) dL_offices_255 ?_
              refine z_iconst (v := nI 0) X (by decide) dL_offices_256 ?_
              refine z_iconst (v := nI 0) X (by decide) dL_offices_257 ?_
              refine z_iconst (v := nI 0) X (by decide) dL_offices_258 ?_
              refine z_runSW X Y wL_112 (tB_no hL (zxk (E := zIO) 0 (if_pos (Or.inr (by rw [c_247]; decide))) rfl) (fun _ _ h z1 => tL_does_10 hfl (zso_1 h.S) _ _ _ _ _ (tC_reserve hfl h (nI s6) (nI 1)))) rfl rfl (Nat.le_of_ble_eq_true rfl) ⟨by decide, by decide⟩ ⟨by decide, by decide⟩ dL_offices_259 ?_
              rintro _ _ _ ⟨w, τ, rfl, rfl, rfl, hL⟩
              rw [zcd_O]
              refine z_goto (tgt := 289) X dL_offices_262 (by decide) ?_
              refine z_istore X dL_offices_289 (by decide) ?_
              refine z_aload_n X dL_offices_291 rfl ?_
              refine z_iconst (v := nI 4) X (by decide) dL_offices_292 ?_
              refine z_ialda X hL.ar hL.da (by omega) (by omega) dL_offices_293 ?_
              rw [hL.sd]
              rw [hd4]
              refine z_if_ne (tgt := 312) X dL_offices_294 (by decide) (fun c_294 => ?_) (fun c_294 => ?_)
              · skip
                try simp (disch := omega) only [zk0, nI_leI, nI_ltI, nI_eq, zbk_notn, zbk_not, zbk_n0, zbk_0, zb_0, zb_n0, zb_not, zb_notn, Bool.not_eq_false, Bool.not_eq_true, Bool.not_eq_true', Bool.not_eq_false', decide_eq_true_eq, decide_eq_false_iff_not, Classical.not_not] at c_294
                (exfalso; omega)
              · skip
                try simp (disch := omega) only [zk0, nI_leI, nI_ltI, nI_eq, zbk_notn, zbk_not, zbk_n0, zbk_0, zb_0, zb_n0, zb_not, zb_notn, Bool.not_eq_false, Bool.not_eq_true, Bool.not_eq_true', Bool.not_eq_false', decide_eq_true_eq, decide_eq_false_iff_not, Classical.not_not] at c_294
                refine z_iload X dL_offices_297 rfl ?_
                refine z_ldc X qL_17 dL_offices_299 ?_
                refine z_icmp_ne (tgt := 308) X dL_offices_301 (by decide) (fun c_301 => ?_) (fun c_301 => ?_)
                · exact absurd rfl c_301
                · skip
                  refine z_iconst (v := nI 1) X (by decide) dL_offices_304 ?_
                  refine z_goto (tgt := 330) X dL_offices_305 (by decide) ?_
                  refine z_zret X (by decide) (by decide) rfl (by first | exact Or.inl rfl | exact Or.inr rfl | exact zb_01 _ | assumption) dL_offices_330 ?_
                  first | exact ⟨_, _, _, _, w, τ, rfl, rfl, rfl, hL, hd9, ht7⟩ | exact ⟨_, _, _, _, w, τ, rfl, rfl, rfl, hL, hd, ht7⟩
      · skip
        try simp (disch := omega) only [zk0, nI_leI, nI_ltI, nI_eq, zbk_notn, zbk_not, zbk_n0, zbk_0, zb_0, zb_n0, zb_not, zb_notn, Bool.not_eq_false, Bool.not_eq_true, Bool.not_eq_true', Bool.not_eq_false', decide_eq_true_eq, decide_eq_false_iff_not, Classical.not_not] at c_132
        refine z_aload_n X dL_offices_135 rfl ?_
        refine z_aload_n X dL_offices_136 rfl ?_
        refine z_bipush (v := nI 9) X (by decide) dL_offices_137 ?_
        refine z_iload X dL_offices_139 rfl ?_
        refine z_iconst (v := nI 4) X (by decide) dL_offices_141 ?_
        refine z_runSn X Y kL_116 (tL_some2 _ 4 (by decide) (by decide)) rfl rfl (Nat.le_of_ble_eq_true rfl) ⟨by decide, by decide⟩ ⟨by decide, by decide⟩ dL_offices_142 ?_
        rintro _ _ _ ⟨s7, hs7, rfl, rfl, rfl⟩
        refine z_iconst (v := nI 5) X (by decide) dL_offices_145 ?_
        refine z_iload X dL_offices_146 rfl ?_
        refine z_iconst (v := nI 3) X (by decide) dL_offices_148 ?_
        refine z_ishr X dL_offices_149 ?_
        refine z_bipush (v := nI 16) X (by decide) dL_offices_150 ?_
        refine z_runSn X Y kL_116 (tL_some2 _ 16 (by decide) (by decide)) rfl rfl (Nat.le_of_ble_eq_true rfl) ⟨by decide, by decide⟩ ⟨by decide, by decide⟩ dL_offices_152 ?_
        rintro _ _ _ ⟨s8, hs8, rfl, rfl, rfl⟩
        refine z_iaddN X dL_offices_155 ?_
        refine z_iconst (v := nI 5) X (by decide) dL_offices_156 ?_
        refine z_iconst (v := nI 5) X (by decide) dL_offices_157 ?_
        refine z_iload X dL_offices_158 rfl ?_
        refine z_bipush (v := nI 8) X (by decide) dL_offices_160 ?_
        refine z_ishr X dL_offices_162 ?_
        refine z_iconst (v := nI 3) X (by decide) dL_offices_163 ?_
        refine z_runSn X Y kL_116 (tL_some2 _ 3 (by decide) (by decide)) rfl rfl (Nat.le_of_ble_eq_true rfl) ⟨by decide, by decide⟩ ⟨by decide, by decide⟩ dL_offices_164 ?_
        rintro _ _ _ ⟨s9, hs9, rfl, rfl, rfl⟩
        refine z_imulN X dL_offices_167 ?_
        refine z_iaddN X dL_offices_168 ?_
        refine z_iload X dL_offices_169 rfl ?_
        refine z_bipush (v := nI 6) X (by decide) dL_offices_171 ?_
        refine z_ishr X dL_offices_173 ?_
        refine z_iconst (v := nI 3) X (by decide) dL_offices_174 ?_
        refine z_runSn X Y kL_116 (tL_some2 _ 3 (by decide) (by decide)) rfl rfl (Nat.le_of_ble_eq_true rfl) ⟨by decide, by decide⟩ ⟨by decide, by decide⟩ dL_offices_175 ?_
        rintro _ _ _ ⟨s10, hs10, rfl, rfl, rfl⟩
        refine z_iconst (v := nI 0) X (by decide) dL_offices_178 ?_
        refine z_runSn X Y kL_120 (tL_both (nI 9) (nI s7) (nI (5 + s8)) (nI (5 + 5 * s9)) (nI s10) (nI 0) (zd_conf _ _ _ _) hL (fun _ _ h z1 => tL_does_9 hfl (zso_1 h.S) _ _ _ _ _ (tC_conf hfl h _ _ _ _))) rfl rfl (Nat.le_of_ble_eq_true rfl) ⟨by decide, by decide⟩ ⟨by decide, by decide⟩ dL_offices_179 ?_
        rintro _ _ _ ⟨r, κ1, n1, w, τ, rfl, hR, rfl, rfl, hL⟩
        have hE := zk_cnf hs7 hs8 hs9 hs10 hR
        refine z_istore X dL_offices_182 (by decide) ?_
        rcases hE with ⟨rfl, hκ, rfl⟩ | ⟨rfl, h12, e1, e2⟩
        · skip
          skip
          refine z_aload_n X dL_offices_184 rfl ?_
          refine z_iconst (v := nI 4) X (by decide) dL_offices_185 ?_
          refine z_dup2 X rfl rfl dL_offices_186 ?_
          refine z_ialda X hL.ar hL.da (by omega) (by omega) dL_offices_187 ?_
          rw [hL.sd]
          rw [hd4]
          refine z_iload X dL_offices_188 rfl ?_
          refine z_if_lt (tgt := 197) X dL_offices_190 (by decide) (fun c_190 => ?_) (fun c_190 => ?_)
          · skip
            try simp (disch := omega) only [zk0, nI_leI, nI_ltI, nI_eq, zbk_notn, zbk_not, zbk_n0, zbk_0, zb_0, zb_n0, zb_not, zb_notn, Bool.not_eq_false, Bool.not_eq_true, Bool.not_eq_true', Bool.not_eq_false', decide_eq_true_eq, decide_eq_false_iff_not, Classical.not_not] at c_190
            (exfalso; omega)
          · skip
            try simp (disch := omega) only [zk0, nI_leI, nI_ltI, nI_eq, zbk_notn, zbk_not, zbk_n0, zbk_0, zb_0, zb_n0, zb_not, zb_notn, Bool.not_eq_false, Bool.not_eq_true, Bool.not_eq_true', Bool.not_eq_false', decide_eq_true_eq, decide_eq_false_iff_not, Classical.not_not] at c_190
            refine z_iconst (v := nI 1) X (by decide) dL_offices_193 ?_
            refine z_goto (tgt := 198) X dL_offices_194 (by decide) ?_
            refine z_iaddN X dL_offices_198 ?_
            refine z_iasta X hL.ar hL.da (by omega) (by omega) dL_offices_199 ?_
            rw [zJ_up5]
            replace hL := hL.up5 4 (nI (n 5 + 1))
            refine z_iload X dL_offices_200 rfl ?_
            refine z_ldc X qL_23 dL_offices_202 ?_
            refine z_icmp_ne (tgt := 223) X dL_offices_204 (by decide) (fun c_204 => ?_) (fun c_204 => ?_)
            · skip
              refine z_iload X dL_offices_223 rfl ?_
              refine z_aload_n X dL_offices_225 rfl ?_
              refine z_iconst (v := nI 4) X (by decide) dL_offices_226 ?_
              refine z_ialda X hL.ar hL.da (by omega) (by omega) dL_offices_227 ?_
              rw [hL.sd]
              rw [show z_up σ2 1 4 (nI (n 5 + 1)) 1 4 = nI (n 5 + 1) by simp [z_up]]
              refine z_icmp_ne (tgt := 235) X dL_offices_228 (by decide) (fun c_228 => ?_) (fun c_228 => ?_)
              · exact absurd rfl c_228
              · skip
                refine z_iconst (v := nI 1) X (by decide) dL_offices_231 ?_
                refine z_goto (tgt := 236) X dL_offices_232 (by decide) ?_
                refine z_zret X (by decide) (by decide) rfl (by first | exact Or.inl rfl | exact Or.inr rfl | exact zb_01 _ | assumption) dL_offices_236 ?_
                exact ⟨_, _, _, _, w, _, rfl, rfl, rfl, hL, zDf_5 hd hκ, ht7⟩
            · exact absurd c_204 (nIn_neg (by omega) (by decide))
        · skip
          replace e1 := e1.symm
          subst e1
          replace e2 := e2.symm
          subst e2
          refine z_aload_n X dL_offices_184 rfl ?_
          refine z_iconst (v := nI 4) X (by decide) dL_offices_185 ?_
          refine z_dup2 X rfl rfl dL_offices_186 ?_
          refine z_ialda X hL.ar hL.da (by omega) (by omega) dL_offices_187 ?_
          rw [hL.sd]
          rw [hd4]
          refine z_iload X dL_offices_188 rfl ?_
          refine z_if_lt (tgt := 197) X dL_offices_190 (by decide) (fun c_190 => ?_) (fun c_190 => ?_)
          · skip
            refine z_iconst (v := nI 0) X (by decide) dL_offices_197 ?_
            refine z_iaddN X dL_offices_198 ?_
            refine z_iasta X hL.ar hL.da (by omega) (by omega) dL_offices_199 ?_
            rw [zJ_up5]
            replace hL := hL.up5 4 (nI (n 5 + 0))
            refine z_iload X dL_offices_200 rfl ?_
            refine z_ldc X qL_23 dL_offices_202 ?_
            refine z_icmp_ne (tgt := 223) X dL_offices_204 (by decide) (fun c_204 => ?_) (fun c_204 => ?_)
            · exact absurd rfl c_204
            · skip
              refine z_aload_n X dL_offices_207 rfl ?_
              refine z_iconst (v := nI 4) X (by decide) dL_offices_208 ?_
              refine z_ialda X hL.ar hL.da (by omega) (by omega) dL_offices_209 ?_
              rw [hL.sd]
              rw [show z_up σ2 1 4 (nI (n 5 + 0)) 1 4 = nI (n 5 + 0) by simp [z_up]]
              refine z_bipush (v := nI 12) X (by decide) dL_offices_210 ?_
              refine z_icmp_ne (tgt := 219) X dL_offices_212 (by decide) (fun c_212 => ?_) (fun c_212 => ?_)
              · skip
                try simp (disch := omega) only [zk0, nI_leI, nI_ltI, nI_eq, zbk_notn, zbk_not, zbk_n0, zbk_0, zb_0, zb_n0, zb_not, zb_notn, Bool.not_eq_false, Bool.not_eq_true, Bool.not_eq_true', Bool.not_eq_false', decide_eq_true_eq, decide_eq_false_iff_not, Classical.not_not] at c_212
                (exfalso; omega)
              · skip
                try simp (disch := omega) only [zk0, nI_leI, nI_ltI, nI_eq, zbk_notn, zbk_not, zbk_n0, zbk_0, zb_0, zb_n0, zb_not, zb_notn, Bool.not_eq_false, Bool.not_eq_true, Bool.not_eq_true', Bool.not_eq_false', decide_eq_true_eq, decide_eq_false_iff_not, Classical.not_not] at c_212
                refine z_iconst (v := nI 1) X (by decide) dL_offices_215 ?_
                refine z_goto (tgt := 236) X dL_offices_216 (by decide) ?_
                refine z_zret X (by decide) (by decide) rfl (by first | exact Or.inl rfl | exact Or.inr rfl | exact zb_01 _ | assumption) dL_offices_236 ?_
                exact ⟨_, _, _, _, w, _, rfl, rfl, rfl, hL, by have h9 := zDf_5 (c := n 5 + 0) hd (fun _ => rfl); rw [show zud n 5 (n 5 + 0) = n from zud_id] at h9; exact h9, ht7⟩
          · exact absurd (by decide) c_190
    · skip
      try simp (disch := omega) only [zk0, nI_leI, nI_ltI, nI_eq, zbk_notn, zbk_not, zbk_n0, zbk_0, zb_0, zb_n0, zb_not, zb_notn, Bool.not_eq_false, Bool.not_eq_true, Bool.not_eq_true', Bool.not_eq_false', decide_eq_true_eq, decide_eq_false_iff_not, Classical.not_not] at c_87
      refine z_aload_n X dL_offices_90 rfl ?_
      refine z_aload_n X dL_offices_91 rfl ?_
      refine z_bipush (v := nI 7) X (by decide) dL_offices_92 ?_
      refine z_iload X dL_offices_94 rfl ?_
      refine z_iload X dL_offices_96 rfl ?_
      refine z_iconst (v := nI 3) X (by decide) dL_offices_98 ?_
      refine z_ishr X dL_offices_99 ?_
      refine z_iconst (v := nI 2) X (by decide) dL_offices_100 ?_
      refine z_runSn X Y kL_116 (tL_some2 _ 2 (by decide) (by decide)) rfl rfl (Nat.le_of_ble_eq_true rfl) ⟨by decide, by decide⟩ ⟨by decide, by decide⟩ dL_offices_101 ?_
      rintro _ _ _ ⟨s7, hs7, rfl, rfl, rfl⟩
      refine z_iconst (v := nI 0) X (by decide) dL_offices_104 ?_
      refine z_iconst (v := nI 0) X (by decide) dL_offices_105 ?_
      refine z_iconst (v := nI 0) X (by decide) dL_offices_106 ?_
      refine z_runSn X Y kL_120 (tL_both (nI 7) (nI s6) (nI s7) (nI 0) (nI 0) (nI 0) (zd_forbid hL.1.2.2.2 _ _) hL (fun _ _ h z1 => tL_does_7 hfl (zso_1 h.S) _ _ _ _ _ (tC_forbid hfl h _ _ (zb_01 _)))) rfl rfl (Nat.le_of_ble_eq_true rfl) ⟨by decide, by decide⟩ ⟨by decide, by decide⟩ dL_offices_107 ?_
      rintro _ _ _ ⟨r, κ1, n1, w, τ, rfl, hR, rfl, rfl, hL⟩
      obtain ⟨o9, ho9, e9, eκ, rfl, e2⟩ := zRk_0 (zx_in_0 hs6 (by omega)) hR
      replace e2 := e2.symm
      subst e2
      have hκ : ∀ k, κ1 4 k = κ 4 k := fun k => by rw [eκ]; exact zup_4 (by omega) k
      have hd9 := zDf_same hd hκ
      have hb9 := (hv.2.1.2.1 o9 ho9).1
      refine z_istore X dL_offices_110 (by decide) ?_
      rcases hb9 with hb9 | hb9
      · skip
        rw [hb9]
        refine z_iload X dL_offices_112 rfl ?_
        refine z_if_eq (tgt := 123) X dL_offices_114 (by decide) (fun c_114 => ?_) (fun c_114 => ?_)
        · skip
          refine z_iconst (v := nI 1) X (by decide) dL_offices_123 ?_
          refine z_goto (tgt := 128) X dL_offices_124 (by decide) ?_
          refine z_zret X (by decide) (by decide) rfl (by first | exact Or.inl rfl | exact Or.inr rfl | exact zb_01 _ | assumption) dL_offices_128 ?_
          exact ⟨_, _, _, _, w, τ, rfl, rfl, rfl, hL, hd9, ht7⟩
        · exact absurd rfl c_114
      · skip
        rw [hb9]
        refine z_iload X dL_offices_112 rfl ?_
        refine z_if_eq (tgt := 123) X dL_offices_114 (by decide) (fun c_114 => ?_) (fun c_114 => ?_)
        · exact absurd c_114 (by decide)
        · skip
          refine z_iload X dL_offices_117 rfl ?_
          refine z_iconst (v := nI 1) X (by decide) dL_offices_119 ?_
          refine z_icmp_ne (tgt := 127) X dL_offices_120 (by decide) (fun c_120 => ?_) (fun c_120 => ?_)
          · exact absurd rfl c_120
          · skip
            refine z_iconst (v := nI 1) X (by decide) dL_offices_123 ?_
            refine z_goto (tgt := 128) X dL_offices_124 (by decide) ?_
            refine z_zret X (by decide) (by decide) rfl (by first | exact Or.inl rfl | exact Or.inr rfl | exact zb_01 _ | assumption) dL_offices_128 ?_
            exact ⟨_, _, _, _, w, τ, rfl, rfl, rfl, hL, hd9, ht7⟩
  · skip
    try simp (disch := omega) only [zk0, nI_leI, nI_ltI, nI_eq, zbk_notn, zbk_not, zbk_n0, zbk_0, zb_0, zb_n0, zb_not, zb_notn, Bool.not_eq_false, Bool.not_eq_true, Bool.not_eq_true', Bool.not_eq_false', decide_eq_true_eq, decide_eq_false_iff_not, Classical.not_not] at c_21
    have hv := hL.1.2.2.2
    refine z_aload_n X dL_offices_24 rfl ?_
    refine z_aload_n X dL_offices_25 rfl ?_
    refine z_bipush (v := nI 8) X (by decide) dL_offices_26 ?_
    refine z_iload X dL_offices_28 rfl ?_
    refine z_iload X dL_offices_30 rfl ?_
    refine z_iconst (v := nI 3) X (by decide) dL_offices_32 ?_
    refine z_ishr X dL_offices_33 ?_
    refine z_bipush (v := nI 40) X (by decide) dL_offices_34 ?_
    refine z_runSn X Y kL_116 (tL_some2 _ 40 (by decide) (by decide)) rfl rfl (Nat.le_of_ble_eq_true rfl) ⟨by decide, by decide⟩ ⟨by decide, by decide⟩ dL_offices_36 ?_
    rintro _ _ _ ⟨s7, hs7, rfl, rfl, rfl⟩
    refine z_iconst (v := nI 0) X (by decide) dL_offices_39 ?_
    refine z_iconst (v := nI 0) X (by decide) dL_offices_40 ?_
    refine z_iconst (v := nI 0) X (by decide) dL_offices_41 ?_
    refine z_runSn X Y kL_120 (tL_both (nI 8) (nI s6) (nI s7) (nI 0) (nI 0) (nI 0) (zd_key hL.1.2.2.2 _ _) hL (fun _ _ h z1 => tL_does_8 hfl (zso_1 h.S) _ _ _ _ _ (tC_key hfl h _ _))) rfl rfl (Nat.le_of_ble_eq_true rfl) ⟨by decide, by decide⟩ ⟨by decide, by decide⟩ dL_offices_42 ?_
    rintro _ _ _ ⟨r, κ1, n1, w, τ, rfl, hR, rfl, rfl, hL⟩
    obtain ⟨o9, ho9, e9, eκ, rfl, hk39, e2⟩ := zRk_0 (zx_key_0 hs6 (by omega) (by omega)) hR
    replace e2 := e2.symm
    subst e2
    have hκ : ∀ k, κ1 4 k = κ 4 k := fun k => by rw [eκ]; exact zup_4 (by omega) k
    have hd9 := zDf_same hd hκ
    refine z_istore X dL_offices_45 (by decide) ?_
    refine z_iload X dL_offices_47 rfl ?_
    refine z_if_lt (tgt := 82) X dL_offices_49 (by decide) (fun c_49 => ?_) (fun c_49 => ?_)
    · skip
      try simp (disch := omega) only [zk0, nI_leI, nI_ltI, nI_eq, zbk_notn, zbk_not, zbk_n0, zbk_0, zb_0, zb_n0, zb_not, zb_notn, Bool.not_eq_false, Bool.not_eq_true, Bool.not_eq_true', Bool.not_eq_false', decide_eq_true_eq, decide_eq_false_iff_not, Classical.not_not] at c_49
      (exfalso; omega)
    · skip
      try simp (disch := omega) only [zk0, nI_leI, nI_ltI, nI_eq, zbk_notn, zbk_not, zbk_n0, zbk_0, zb_0, zb_n0, zb_not, zb_notn, Bool.not_eq_false, Bool.not_eq_true, Bool.not_eq_true', Bool.not_eq_false', decide_eq_true_eq, decide_eq_false_iff_not, Classical.not_not] at c_49
      refine z_iload X dL_offices_52 rfl ?_
      refine z_bipush (v := nI 40) X (by decide) dL_offices_54 ?_
      refine z_icmp_ge (tgt := 82) X dL_offices_56 (by decide) (fun c_56 => ?_) (fun c_56 => ?_)
      · skip
        try simp (disch := omega) only [zk0, nI_leI, nI_ltI, nI_eq, zbk_notn, zbk_not, zbk_n0, zbk_0, zb_0, zb_n0, zb_not, zb_notn, Bool.not_eq_false, Bool.not_eq_true, Bool.not_eq_true', Bool.not_eq_false', decide_eq_true_eq, decide_eq_false_iff_not, Classical.not_not] at c_56
        (exfalso; omega)
      · skip
        try simp (disch := omega) only [zk0, nI_leI, nI_ltI, nI_eq, zbk_notn, zbk_not, zbk_n0, zbk_0, zb_0, zb_n0, zb_not, zb_notn, Bool.not_eq_false, Bool.not_eq_true, Bool.not_eq_true', Bool.not_eq_false', decide_eq_true_eq, decide_eq_false_iff_not, Classical.not_not] at c_56
        refine z_aload_n X dL_offices_59 rfl ?_
        refine z_aload_n X dL_offices_60 rfl ?_
        refine z_bipush (v := nI 8) X (by decide) dL_offices_61 ?_
        refine z_iload X dL_offices_63 rfl ?_
        refine z_bipush (v := nI 40) X (by decide) dL_offices_65 ?_
        refine z_iconst (v := nI 0) X (by decide) dL_offices_67 ?_
        refine z_iconst (v := nI 0) X (by decide) dL_offices_68 ?_
        refine z_iconst (v := nI 0) X (by decide) dL_offices_69 ?_
        refine z_runSn X Y kL_120 (tL_both (nI 8) (nI s6) (nI 40) (nI 0) (nI 0) (nI 0) (zd_key hL.1.2.2.2 _ _) hL (fun _ _ h z1 => tL_does_8 hfl (zso_1 h.S) _ _ _ _ _ (tC_key hfl h _ _))) rfl rfl (Nat.le_of_ble_eq_true rfl) ⟨by decide, by decide⟩ ⟨by decide, by decide⟩ dL_offices_70 ?_
        rintro _ _ _ ⟨r, κ2, n2, w, τ, rfl, hR, rfl, rfl, hL⟩
        obtain ⟨rfl, e1, e2⟩ := zRk_1 (E := zIX) (zxk 1 (zx_key_2 hs6 (by omega)) rfl) hR
        replace e1 := e1.symm
        subst e1
        replace e2 := e2.symm
        subst e2
        rw [zcd_X]
        refine z_ldc X qL_20 dL_offices_73 ?_
        refine z_icmp_ne (tgt := 82) X dL_offices_75 (by decide) (fun c_75 => ?_) (fun c_75 => ?_)
        · exact absurd rfl c_75
        · skip
          refine z_iconst (v := nI 1) X (by decide) dL_offices_78 ?_
          refine z_goto (tgt := 83) X dL_offices_79 (by decide) ?_
          refine z_zret X (by decide) (by decide) rfl (by first | exact Or.inl rfl | exact Or.inr rfl | exact zb_01 _ | assumption) dL_offices_83 ?_
          exact ⟨_, _, _, _, w, τ, rfl, rfl, rfl, hL, hd9, ht7⟩
