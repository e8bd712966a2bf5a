/-! contracts of the reference: the way, coming, the office behind -/
def zcomeR (σ : zIn) (m o tt : Nat) (hc fb : Bool) : zIn := if hc && fb then z_up (z_up σ 44 m 2) 48 m (nI o) else if o = tt then z_up σ 44 m 1 else σ
/-- the offices of a way -/
def zpt (ad ot : Nat → Nat) (ro : Nat → Nat) (fm : Nat) : Nat → Nat
  | 0 => fm
  | k + 1 => zoe ad ot (ro k) (zpt ad ot ro fm k)
set_option maxHeartbeats 4000000 in
set_option maxRecDepth 100000 in
theorem tX9_comes {l : Launch} {D : va_G} {cy : Nat → ClassId} {z0 : Nat} {g : zSh} {σ : zIn} {tt : Nat} {hc fb : Bool} (m9 o : Nat) (hS : zS g) (hm : m9 < 60) (ho : o < 8) (hhc : σ 49 m9 = zb hc) (hfb : σ 25 o = zb fb) (hto : σ 42 m9 = nI tt) (ht8 : tt < 8) : z_Ct l D cy z0 MX9_comes [.ref (g.2.1 21), .int (nI m9), .int (nI o)] g σ (zN g (zcomeR σ m9 o tt hc fb)) := by
  refine z_ofM (by decide) (z_cr (z_ci (z_ci z_c0))) (Nat.le_of_ble_eq_true rfl) ?_
  intro p e s m args below meth c X
  refine z_aload_n X dX9_comes_0 rfl ?_
  refine z_getr2 X fX9_92 (zso_21 hS) (zsr_21_36 hS) rfl dX9_comes_1 ?_
  refine z_iload_n X dX9_comes_4 rfl ?_
  refine z_zaldN X (zsa_49 hS) (by omega) (by omega) dX9_comes_5 ?_
  rw [hhc]
  refine z_if_eq (tgt := 35) X dX9_comes_6 (by decide) (fun c_6 => ?_) (fun c_6 => ?_)
  · skip
    try simp (disch := omega) only [zb_notn, zb_not, zb_n0, zb_0, Bool.not_eq_false, Bool.not_eq_true, Bool.not_eq_true', Bool.not_eq_false', decide_eq_true_eq, decide_eq_false_iff_not, Classical.not_not] at c_6
    refine z_iload_n X dX9_comes_35 rfl ?_
    refine z_aload_n X dX9_comes_36 rfl ?_
    refine z_getr2 X fX9_71 (zso_21 hS) (zsr_21_29 hS) rfl dX9_comes_37 ?_
    refine z_iload_n X dX9_comes_40 rfl ?_
    refine z_ialdN X (zsa_42 hS) (by omega) (by omega) dX9_comes_41 ?_
    rw [hto]
    refine z_icmp_ne (tgt := 52) X dX9_comes_42 (by decide) (fun c_42 => ?_) (fun c_42 => ?_)
    · skip
      try simp (disch := omega) only [zk0, nI_leI, nI_ltI, nI_eq, zbk_notn, zbk_not, zbk_n0, zbk_0, zb_0, zb_n0, zb_not, zb_notn, Bool.not_eq_false, Bool.not_eq_true, Bool.not_eq_true', Bool.not_eq_false', decide_eq_true_eq, decide_eq_false_iff_not, Classical.not_not] at c_42
      refine z_vret X (by decide) (by decide) rfl dX9_comes_52 ?_
      unfold zcomeR
      first | exact ⟨rfl, rfl, by rw [c_6, c_15]; rfl⟩ | exact ⟨rfl, rfl, by first | (rw [c_6, Bool.false_and, if_neg (by decide), if_pos c_42]; rfl) | (rw [c_6, Bool.false_and, if_neg (by decide), if_neg c_42])⟩ | exact ⟨rfl, rfl, by first | (rw [c_15, Bool.and_false, if_neg (by decide), if_pos c_42]; rfl) | (rw [c_15, Bool.and_false, if_neg (by decide), if_neg c_42])⟩
    · skip
      try simp (disch := omega) only [zk0, nI_leI, nI_ltI, nI_eq, zbk_notn, zbk_not, zbk_n0, zbk_0, zb_0, zb_n0, zb_not, zb_notn, Bool.not_eq_false, Bool.not_eq_true, Bool.not_eq_true', Bool.not_eq_false', decide_eq_true_eq, decide_eq_false_iff_not, Classical.not_not] at c_42
      refine z_aload_n X dX9_comes_45 rfl ?_
      refine z_getr2 X fX9_77 (zso_21 hS) (zsr_21_31 hS) rfl dX9_comes_46 ?_
      refine z_iload_n X dX9_comes_49 rfl ?_
      refine z_iconst (v := nI 1) X (by decide) dX9_comes_50 ?_
      refine z_iastN X (zsa_44 hS) (by omega) (by omega) dX9_comes_51 ?_
      refine z_vret X (by decide) (by decide) rfl dX9_comes_52 ?_
      unfold zcomeR
      first | exact ⟨rfl, rfl, by rw [c_6, c_15]; rfl⟩ | exact ⟨rfl, rfl, by first | (rw [c_6, Bool.false_and, if_neg (by decide), if_pos c_42]; rfl) | (rw [c_6, Bool.false_and, if_neg (by decide), if_neg c_42])⟩ | exact ⟨rfl, rfl, by first | (rw [c_15, Bool.and_false, if_neg (by decide), if_pos c_42]; rfl) | (rw [c_15, Bool.and_false, if_neg (by decide), if_neg c_42])⟩
  · skip
    try simp (disch := omega) only [zb_notn, zb_not, zb_n0, zb_0, Bool.not_eq_false, Bool.not_eq_true, Bool.not_eq_true', Bool.not_eq_false', decide_eq_true_eq, decide_eq_false_iff_not, Classical.not_not] at c_6
    refine z_aload_n X dX9_comes_9 rfl ?_
    refine z_getr2 X fX9_19 (zso_21 hS) (zsr_21_6 hS) rfl dX9_comes_10 ?_
    refine z_iload_n X dX9_comes_13 rfl ?_
    refine z_zaldN X (zsa_25 hS) (by omega) (by omega) dX9_comes_14 ?_
    rw [hfb]
    refine z_if_eq (tgt := 35) X dX9_comes_15 (by decide) (fun c_15 => ?_) (fun c_15 => ?_)
    · skip
      try simp (disch := omega) only [zb_notn, zb_not, zb_n0, zb_0, Bool.not_eq_false, Bool.not_eq_true, Bool.not_eq_true', Bool.not_eq_false', decide_eq_true_eq, decide_eq_false_iff_not, Classical.not_not] at c_15
      refine z_iload_n X dX9_comes_35 rfl ?_
      refine z_aload_n X dX9_comes_36 rfl ?_
      refine z_getr2 X fX9_71 (zso_21 hS) (zsr_21_29 hS) rfl dX9_comes_37 ?_
      refine z_iload_n X dX9_comes_40 rfl ?_
      refine z_ialdN X (zsa_42 hS) (by omega) (by omega) dX9_comes_41 ?_
      rw [hto]
      refine z_icmp_ne (tgt := 52) X dX9_comes_42 (by decide) (fun c_42 => ?_) (fun c_42 => ?_)
      · skip
        try simp (disch := omega) only [zk0, nI_leI, nI_ltI, nI_eq, zbk_notn, zbk_not, zbk_n0, zbk_0, zb_0, zb_n0, zb_not, zb_notn, Bool.not_eq_false, Bool.not_eq_true, Bool.not_eq_true', Bool.not_eq_false', decide_eq_true_eq, decide_eq_false_iff_not, Classical.not_not] at c_42
        refine z_vret X (by decide) (by decide) rfl dX9_comes_52 ?_
        unfold zcomeR
        first | exact ⟨rfl, rfl, by rw [c_6, c_15]; rfl⟩ | exact ⟨rfl, rfl, by first | (rw [c_6, Bool.false_and, if_neg (by decide), if_pos c_42]; rfl) | (rw [c_6, Bool.false_and, if_neg (by decide), if_neg c_42])⟩ | exact ⟨rfl, rfl, by first | (rw [c_15, Bool.and_false, if_neg (by decide), if_pos c_42]; rfl) | (rw [c_15, Bool.and_false, if_neg (by decide), if_neg c_42])⟩
      · skip
        try simp (disch := omega) only [zk0, nI_leI, nI_ltI, nI_eq, zbk_notn, zbk_not, zbk_n0, zbk_0, zb_0, zb_n0, zb_not, zb_notn, Bool.not_eq_false, Bool.not_eq_true, Bool.not_eq_true', Bool.not_eq_false', decide_eq_true_eq, decide_eq_false_iff_not, Classical.not_not] at c_42
        refine z_aload_n X dX9_comes_45 rfl ?_
        refine z_getr2 X fX9_77 (zso_21 hS) (zsr_21_31 hS) rfl dX9_comes_46 ?_
        refine z_iload_n X dX9_comes_49 rfl ?_
        refine z_iconst (v := nI 1) X (by decide) dX9_comes_50 ?_
        refine z_iastN X (zsa_44 hS) (by omega) (by omega) dX9_comes_51 ?_
        refine z_vret X (by decide) (by decide) rfl dX9_comes_52 ?_
        unfold zcomeR
        first | exact ⟨rfl, rfl, by rw [c_6, c_15]; rfl⟩ | exact ⟨rfl, rfl, by first | (rw [c_6, Bool.false_and, if_neg (by decide), if_pos c_42]; rfl) | (rw [c_6, Bool.false_and, if_neg (by decide), if_neg c_42])⟩ | exact ⟨rfl, rfl, by first | (rw [c_15, Bool.and_false, if_neg (by decide), if_pos c_42]; rfl) | (rw [c_15, Bool.and_false, if_neg (by decide), if_neg c_42])⟩
    · skip
      try simp (disch := omega) only [zb_notn, zb_not, zb_n0, zb_0, Bool.not_eq_false, Bool.not_eq_true, Bool.not_eq_true', Bool.not_eq_false', decide_eq_true_eq, decide_eq_false_iff_not, Classical.not_not] at c_15
      refine z_aload_n X dX9_comes_18 rfl ?_
      refine z_getr2 X fX9_77 (zso_21 hS) (zsr_21_31 hS) rfl dX9_comes_19 ?_
      refine z_iload_n X dX9_comes_22 rfl ?_
      refine z_iconst (v := nI 2) X (by decide) dX9_comes_23 ?_
      refine z_iastN X (zsa_44 hS) (by omega) (by omega) dX9_comes_24 ?_
      refine z_aload_n X dX9_comes_25 rfl ?_
      refine z_getr2 X fX9_89 (zso_21 hS) (zsr_21_35 hS) rfl dX9_comes_26 ?_
      refine z_iload_n X dX9_comes_29 rfl ?_
      refine z_iload_n X dX9_comes_30 rfl ?_
      refine z_iastN X (zsa_48 hS) (by omega) (by omega) dX9_comes_31 ?_
      refine z_goto (tgt := 52) X dX9_comes_32 (by decide) ?_
      refine z_vret X (by decide) (by decide) rfl dX9_comes_52 ?_
      unfold zcomeR
      first | exact ⟨rfl, rfl, by rw [c_6, c_15]; rfl⟩ | exact ⟨rfl, rfl, by first | (rw [c_6, Bool.false_and, if_neg (by decide), if_pos c_42]; rfl) | (rw [c_6, Bool.false_and, if_neg (by decide), if_neg c_42])⟩ | exact ⟨rfl, rfl, by first | (rw [c_15, Bool.and_false, if_neg (by decide), if_pos c_42]; rfl) | (rw [c_15, Bool.and_false, if_neg (by decide), if_neg c_42])⟩

set_option maxHeartbeats 4000000 in
set_option maxRecDepth 100000 in
theorem tX9_behind {l : Launch} {D : va_G} {cy : Nat → ClassId} {z0 : Nat} {g : zSh} {σ : zIn} {nc no : Nat} {ad ot rt sp : Nat → Nat} {br : Nat → Bool} {ro : Nat → Nat} {fm : Nat} (m9 q9 : Nat) (hS : zS g) (hn12 : nc ≤ 12) (hn8 : no ≤ 8) (hCR : zCR σ nc no ad ot rt sp br) (hm : m9 < 60) (hfm : σ 41 m9 = nI fm) (hfm2 : fm < no) (hst : σ 54 m9 = nI q9) (hq8 : q9 < 8) (hro : ∀ k, k ≤ q9 → σ 52 (8 * m9 + k) = nI (ro k) ∧ ro k < nc) (hpt : ∀ k, k ≤ q9 → zpt ad ot ro fm k = ad (ro k) ∨ zpt ad ot ro fm k = ot (ro k)) : z_Ct l D cy z0 MX9_behind [.ref (g.2.1 21), .int (nI m9)] g σ (zI (nI (zpt ad ot ro fm (q9 + 1))) g σ) := by
  refine z_ofM (by decide) (z_cr (z_ci z_c0)) (Nat.le_of_ble_eq_true rfl) ?_
  intro p e s m args below meth c X
  refine z_aload_n X dX9_behind_0 rfl ?_
  refine z_getr2 X fX9_68 (zso_21 hS) (zsr_21_28 hS) rfl dX9_behind_1 ?_
  refine z_iload_n X dX9_behind_4 rfl ?_
  refine z_ialdN X (zsa_41 hS) (by omega) (by omega) dX9_behind_5 ?_
  rw [hfm]
  refine z_istore_n X dX9_behind_6 (by decide) ?_
  have loop_9 : ∀ (n : Nat) (k9 : Nat) (hk : k9 ≤ q9 + 1) (hlt : zpt ad ot ro fm k9 < no) (hn : q9 + 1 - k9 < n), z_V p l e (zRm MX9_behind) s m args below meth c 4 D cy z0 0 0 (zQm MX9_behind below D cy z0 (zI (nI (zpt ad ot ro fm (q9 + 1))) g σ) args s) 9 [some (.ref (g.2.1 21)), some (.int (nI m9)), some (.int (nI (zpt ad ot ro fm k9))), some (.int (nI k9))] [] g σ := by
    intro n
    induction n with
    | zero => intro k9 hk hlt hn; exact absurd hn (Nat.not_lt_zero _)
    | succ n ih_9 =>
      intro k9 hk hlt hn
      refine z_iload_n X dX9_behind_9 rfl ?_
      refine z_aload_n X dX9_behind_10 rfl ?_
      refine z_getr2 X fX9_107 (zso_21 hS) (zsr_21_41 hS) rfl dX9_behind_11 ?_
      refine z_iload_n X dX9_behind_14 rfl ?_
      refine z_ialdN X (zsa_54 hS) (by omega) (by omega) dX9_behind_15 ?_
      rw [hst]
      refine z_icmp_gt (tgt := 42) X dX9_behind_16 (by decide) (fun c_16 => ?_) (fun c_16 => ?_)
      · skip
        try simp (disch := omega) only [zk0, nI_leI, nI_ltI, nI_eq, zbk_notn, zbk_not, zbk_n0, zbk_0, zb_0, zb_n0, zb_not, zb_notn, Bool.not_eq_false, Bool.not_eq_true, Bool.not_eq_true', Bool.not_eq_false', decide_eq_true_eq, decide_eq_false_iff_not, Classical.not_not] at c_16
        refine z_iload_n X dX9_behind_42 rfl ?_
        refine z_iret X (by decide) (by decide) rfl dX9_behind_43 ?_
        have e : q9 + 1 = k9 := by omega
        rw [e]
        exact ⟨rfl, rfl, rfl⟩
      · skip
        try simp (disch := omega) only [zk0, nI_leI, nI_ltI, nI_eq, zbk_notn, zbk_not, zbk_n0, zbk_0, zb_0, zb_n0, zb_not, zb_notn, Bool.not_eq_false, Bool.not_eq_true, Bool.not_eq_true', Bool.not_eq_false', decide_eq_true_eq, decide_eq_false_iff_not, Classical.not_not] at c_16
        refine z_aload_n X dX9_behind_19 rfl ?_
        refine z_aload_n X dX9_behind_20 rfl ?_
        refine z_getr2 X fX9_101 (zso_21 hS) (zsr_21_39 hS) rfl dX9_behind_21 ?_
        refine z_bipush (v := nI 8) X (by decide) dX9_behind_24 ?_
        refine z_iload_n X dX9_behind_26 rfl ?_
        refine z_imulN X dX9_behind_27 ?_
        refine z_iload_n X dX9_behind_28 rfl ?_
        refine z_iaddN X dX9_behind_29 ?_
        refine z_ialdN X (zsa_52 hS) (by omega) (by omega) dX9_behind_30 ?_
        rw [(hro k9 (by omega)).1]
        refine z_iload_n X dX9_behind_31 rfl ?_
        refine z_runV X kX9_248 (tX9_end (ro k9) (zpt ad ot ro fm k9) hS hn12 hn8 hCR (hro k9 (by omega)).2 (by omega)) (zso_21 hS) rfl rfl (Nat.le_of_ble_eq_true rfl) ⟨by decide, by decide⟩ ⟨by decide, by decide⟩ dX9_behind_32 ?_
        rintro _ g1 s1 ⟨rfl, h8, h9⟩
        replace h8 := h8.symm
        subst h8
        replace h9 := h9.symm
        subst h9
        rw [zend_t (hpt k9 (by omega))]
        refine z_istore_n X dX9_behind_35 (by decide) ?_
        refine z_inc1 X dX9_behind_36 rfl (by decide) ?_
        refine z_goto (tgt := 9) X dX9_behind_39 (by decide) ?_
        exact ih_9 (k9 + 1) (by omega) (by show zoe ad ot (ro k9) (zpt ad ot ro fm k9) < no; have h1 := hCR _ (hro k9 (by omega)).2; unfold zoe; split; exact h1.2.2.2.1; exact h1.2.1) (by omega)
  refine z_iconst (v := nI 0) X (by decide) dX9_behind_7 ?_
  refine z_istore_n X dX9_behind_8 (by decide) ?_
  exact loop_9 (q9 + 1 - 0 + 1) 0 (Nat.zero_le _) hfm2 (by omega)

set_option maxHeartbeats 4000000 in
set_option maxRecDepth 100000 in
theorem tX9_hasRoute {l : Launch} {D : va_G} {cy : Nat → ClassId} {z0 : Nat} {g : zSh} {σ : zIn} {nc no : Nat} {ad ot rt sp : Nat → Nat} {br : Nat → Bool} (fm to : Nat) (hS : zS g) (hnc : σ 21 10 = nI nc) (hn12 : nc ≤ 12) (hn8 : no ≤ 8) (hCR : zCR σ nc no ad ot rt sp br) (hfm : fm < no) (hto : to < no) : z_Ct l D cy z0 MX9_hasRoute [.ref (g.2.1 21), .int (nI fm), .int (nI to)] g σ (fun v g' σ' => ∃ b : Bool, v = some (.int (zb b)) ∧ g' = g ∧ (∀ i, i ≠ 21 → i ≠ 57 → i ≠ 58 → σ' i = σ i) ∧ (∀ k, k ≠ 46 → σ' 21 k = σ 21 k) ∧ (b = true ↔ (zrs ad ot rt br nc (zd0 1000000 to) 8) fm < 1000000) ∧ (b = true → ∃ l, zpath (zcn ad ot rt br (zrs ad ot rt br nc (zd0 1000000 to) 8)) (zoe ad ot) nc to fm l ∧ l.length < 8 ∧ σ' 21 46 = nI l.length ∧ ∀ i, i < l.length → σ' 58 i = nI (l.getD i 0))) := by
  obtain ⟨Dm, hDf, hDc, hDB, hD0, hDR⟩ := zbell (ad := ad) (ot := ot) (rt := rt) (br := br) (nc := nc) (no := no) (B := 1000000) (to := to) (fun c hc => ⟨(hCR c hc).2.1, (hCR c hc).2.2.2.1, (hCR c hc).2.2.2.2.1⟩) hto (by decide)
  have hDe : (zrs ad ot rt br nc (zd0 1000000 to) 8) = Dm := funext (hDR 8 (by omega))
  refine z_ofM (by decide) (z_cr (z_ci (z_ci z_c0))) (Nat.le_of_ble_eq_true rfl) ?_
  intro p e s m args below meth c X
  refine z_aload_n X dX9_hasRoute_0 rfl ?_
  refine z_iload_n X dX9_hasRoute_1 rfl ?_
  refine z_runV X kX9_242 (tX9_reaches to hS (by omega) hnc hn12 hn8 hCR) (zso_21 hS) rfl rfl (Nat.le_of_ble_eq_true rfl) ⟨by decide, by decide⟩ ⟨by decide, by decide⟩ dX9_hasRoute_2 ?_
  rintro _ g1 s1 ⟨rfl, h8, hr1, hr2⟩
  replace h8 := h8.symm
  subst h8
  obtain ⟨d9, hd9⟩ : ∃ d, d = (zrs ad ot rt br nc (zd0 1000000 to) 8) := ⟨_, rfl⟩
  rw [← hd9] at hr2
  have hd9e : d9 = Dm := hd9.trans hDe
  refine z_aload_n X dX9_hasRoute_5 rfl ?_
  refine z_iconst (v := nI 0) X (by decide) dX9_hasRoute_6 ?_
  refine z_puti X fX9_245 (zso_21 hS) rfl dX9_hasRoute_7 ?_
  have loop_12 : ∀ (n : Nat) (a9 j9 : Nat) (v4 : Option Value) (τ : zIn) (pre : List Nat) (ha : a9 < no) (hda : d9 a9 ≤ d9 fm) (hF : ∀ i, i ≠ 21 → i ≠ 57 → i ≠ 58 → τ i = σ i) (hF21 : ∀ k, k ≠ 46 → τ 21 k = σ 21 k) (hfv : zfv τ d9) (hwm : τ 21 46 = nI j9) (hjc : j9 + zcnt (fun u => d9 u < d9 a9) no ≤ zcnt (fun u => d9 u < d9 fm) no) (hpl : pre.length = j9) (hpw : ∀ i, i < j9 → τ 58 i = nI (pre.getD i 0)) (hpp : ∀ l, zpath (zcn ad ot rt br d9) (zoe ad ot) nc to a9 l → zpath (zcn ad ot rt br d9) (zoe ad ot) nc to fm (pre ++ l)) (hn : zcnt (fun u => d9 u < d9 a9) no < n), z_V p l e (zRm MX9_hasRoute) s m args below meth c 5 D cy z0 0 0 (zQm MX9_hasRoute below D cy z0 (fun v g' σ' => ∃ b : Bool, v = some (.int (zb b)) ∧ g' = g ∧ (∀ i, i ≠ 21 → i ≠ 57 → i ≠ 58 → σ' i = σ i) ∧ (∀ k, k ≠ 46 → σ' 21 k = σ 21 k) ∧ (b = true ↔ (zrs ad ot rt br nc (zd0 1000000 to) 8) fm < 1000000) ∧ (b = true → ∃ l, zpath (zcn ad ot rt br (zrs ad ot rt br nc (zd0 1000000 to) 8)) (zoe ad ot) nc to fm l ∧ l.length < 8 ∧ σ' 21 46 = nI l.length ∧ ∀ i, i < l.length → σ' 58 i = nI (l.getD i 0))) args s) 12 [some (.ref (g.2.1 21)), some (.int (nI fm)), some (.int (nI to)), some (.int (nI a9)), v4] [] g τ := by
    intro n
    induction n with
    | zero => intro a9 j9 v4 τ pre ha hda hF hF21 hfv hwm hjc hpl hpw hpp hn; exact absurd hn (Nat.not_lt_zero _)
    | succ n ih_12 =>
      intro a9 j9 v4 τ pre ha hda hF hF21 hfv hwm hjc hpl hpw hpp hn
      have hCRτ : zCR τ nc no ad ot rt sp br := zCR_e hCR (fun i q1 q2 => hF i (by omega) (by omega) (by omega))
      have hvf := hfv fm (by omega)
      refine z_aload_n X dX9_hasRoute_12 rfl ?_
      refine z_getr2 X fX9_116 (zso_21 hS) (zsr_21_44 hS) rfl dX9_hasRoute_13 ?_
      refine z_iload_n X dX9_hasRoute_16 rfl ?_
      refine z_ialdN X (zsa_57 hS) (by omega) (by omega) dX9_hasRoute_17 ?_
      rw [hvf.1]
      refine z_ldc X qX9_217 dX9_hasRoute_18 ?_
      rw [zkM]
      refine z_icmp_ge (tgt := 124) X dX9_hasRoute_20 (by decide) (fun c_20 => ?_) (fun c_20 => ?_)
      · skip
        try simp (disch := omega) only [zk0, nI_leI, nI_ltI, nI_eq, zbk_notn, zbk_not, zbk_n0, zbk_0, zb_0, zb_n0, zb_not, zb_notn, Bool.not_eq_false, Bool.not_eq_true, Bool.not_eq_true', Bool.not_eq_false', decide_eq_true_eq, decide_eq_false_iff_not, Classical.not_not] at c_20
        refine z_aload_n X dX9_hasRoute_124 rfl ?_
        refine z_getr2 X fX9_116 (zso_21 hS) (zsr_21_44 hS) rfl dX9_hasRoute_125 ?_
        refine z_iload_n X dX9_hasRoute_128 rfl ?_
        refine z_ialdN X (zsa_57 hS) (by omega) (by omega) dX9_hasRoute_129 ?_
        rw [hvf.1]
        refine z_ldc X qX9_217 dX9_hasRoute_130 ?_
        rw [zkM]
        refine z_icmp_ge (tgt := 139) X dX9_hasRoute_132 (by decide) (fun c_132 => ?_) (fun c_132 => ?_)
        · skip
          try simp (disch := omega) only [zk0, nI_leI, nI_ltI, nI_eq, zbk_notn, zbk_not, zbk_n0, zbk_0, zb_0, zb_n0, zb_not, zb_notn, Bool.not_eq_false, Bool.not_eq_true, Bool.not_eq_true', Bool.not_eq_false', decide_eq_true_eq, decide_eq_false_iff_not, Classical.not_not] at c_132
          refine z_iconst (v := nI 0) X (by decide) dX9_hasRoute_139 ?_
          refine z_zret X (by decide) (by decide) rfl (by first | exact Or.inl rfl | exact Or.inr rfl | exact zb_01 _ | assumption) dX9_hasRoute_140 ?_
          show ∃ b : Bool, _
          rw [← hd9]
          first
          | (exfalso; omega)
          | (have hto9 : a9 = to := by omega
             refine ⟨true, rfl, rfl, hF, hF21, ⟨fun _ => by omega, fun _ => rfl⟩, fun _ => ⟨pre, ?_, ?_, by rw [hpl]; exact hwm, fun i hi => hpw i (by omega)⟩⟩
             · have := hpp [] hto9; rw [List.append_nil] at this; exact this
             · have q1 := zcnt_lt_n (P := fun u => d9 u < d9 fm) hfm (Nat.lt_irrefl _); omega)
          | exact ⟨false, rfl, rfl, hF, hF21, ⟨fun q => absurd q (by decide), fun q => by omega⟩, fun q => absurd q (by decide)⟩
        · skip
          try simp (disch := omega) only [zk0, nI_leI, nI_ltI, nI_eq, zbk_notn, zbk_not, zbk_n0, zbk_0, zb_0, zb_n0, zb_not, zb_notn, Bool.not_eq_false, Bool.not_eq_true, Bool.not_eq_true', Bool.not_eq_false', decide_eq_true_eq, decide_eq_false_iff_not, Classical.not_not] at c_132
          refine z_iconst (v := nI 1) X (by decide) dX9_hasRoute_135 ?_
          refine z_goto (tgt := 140) X dX9_hasRoute_136 (by decide) ?_
          refine z_zret X (by decide) (by decide) rfl (by first | exact Or.inl rfl | exact Or.inr rfl | exact zb_01 _ | assumption) dX9_hasRoute_140 ?_
          show ∃ b : Bool, _
          rw [← hd9]
          first
          | (exfalso; omega)
          | (have hto9 : a9 = to := by omega
             refine ⟨true, rfl, rfl, hF, hF21, ⟨fun _ => by omega, fun _ => rfl⟩, fun _ => ⟨pre, ?_, ?_, by rw [hpl]; exact hwm, fun i hi => hpw i (by omega)⟩⟩
             · have := hpp [] hto9; rw [List.append_nil] at this; exact this
             · have q1 := zcnt_lt_n (P := fun u => d9 u < d9 fm) hfm (Nat.lt_irrefl _); omega)
          | exact ⟨false, rfl, rfl, hF, hF21, ⟨fun q => absurd q (by decide), fun q => by omega⟩, fun q => absurd q (by decide)⟩
      · skip
        try simp (disch := omega) only [zk0, nI_leI, nI_ltI, nI_eq, zbk_notn, zbk_not, zbk_n0, zbk_0, zb_0, zb_n0, zb_not, zb_notn, Bool.not_eq_false, Bool.not_eq_true, Bool.not_eq_true', Bool.not_eq_false', decide_eq_true_eq, decide_eq_false_iff_not, Classical.not_not] at c_20
        refine z_iload_n X dX9_hasRoute_23 rfl ?_
        refine z_iload_n X dX9_hasRoute_24 rfl ?_
        refine z_icmp_eq (tgt := 124) X dX9_hasRoute_25 (by decide) (fun c_25 => ?_) (fun c_25 => ?_)
        · skip
          try simp (disch := omega) only [zk0, nI_leI, nI_ltI, nI_eq, zbk_notn, zbk_not, zbk_n0, zbk_0, zb_0, zb_n0, zb_not, zb_notn, Bool.not_eq_false, Bool.not_eq_true, Bool.not_eq_true', Bool.not_eq_false', decide_eq_true_eq, decide_eq_false_iff_not, Classical.not_not] at c_25
          refine z_aload_n X dX9_hasRoute_124 rfl ?_
          refine z_getr2 X fX9_116 (zso_21 hS) (zsr_21_44 hS) rfl dX9_hasRoute_125 ?_
          refine z_iload_n X dX9_hasRoute_128 rfl ?_
          refine z_ialdN X (zsa_57 hS) (by omega) (by omega) dX9_hasRoute_129 ?_
          rw [hvf.1]
          refine z_ldc X qX9_217 dX9_hasRoute_130 ?_
          rw [zkM]
          refine z_icmp_ge (tgt := 139) X dX9_hasRoute_132 (by decide) (fun c_132 => ?_) (fun c_132 => ?_)
          · skip
            try simp (disch := omega) only [zk0, nI_leI, nI_ltI, nI_eq, zbk_notn, zbk_not, zbk_n0, zbk_0, zb_0, zb_n0, zb_not, zb_notn, Bool.not_eq_false, Bool.not_eq_true, Bool.not_eq_true', Bool.not_eq_false', decide_eq_true_eq, decide_eq_false_iff_not, Classical.not_not] at c_132
            refine z_iconst (v := nI 0) X (by decide) dX9_hasRoute_139 ?_
            refine z_zret X (by decide) (by decide) rfl (by first | exact Or.inl rfl | exact Or.inr rfl | exact zb_01 _ | assumption) dX9_hasRoute_140 ?_
            show ∃ b : Bool, _
            rw [← hd9]
            first
            | (exfalso; omega)
            | (have hto9 : a9 = to := by omega
               refine ⟨true, rfl, rfl, hF, hF21, ⟨fun _ => by omega, fun _ => rfl⟩, fun _ => ⟨pre, ?_, ?_, by rw [hpl]; exact hwm, fun i hi => hpw i (by omega)⟩⟩
               · have := hpp [] hto9; rw [List.append_nil] at this; exact this
               · have q1 := zcnt_lt_n (P := fun u => d9 u < d9 fm) hfm (Nat.lt_irrefl _); omega)
            | exact ⟨false, rfl, rfl, hF, hF21, ⟨fun q => absurd q (by decide), fun q => by omega⟩, fun q => absurd q (by decide)⟩
          · skip
            try simp (disch := omega) only [zk0, nI_leI, nI_ltI, nI_eq, zbk_notn, zbk_not, zbk_n0, zbk_0, zb_0, zb_n0, zb_not, zb_notn, Bool.not_eq_false, Bool.not_eq_true, Bool.not_eq_true', Bool.not_eq_false', decide_eq_true_eq, decide_eq_false_iff_not, Classical.not_not] at c_132
            refine z_iconst (v := nI 1) X (by decide) dX9_hasRoute_135 ?_
            refine z_goto (tgt := 140) X dX9_hasRoute_136 (by decide) ?_
            refine z_zret X (by decide) (by decide) rfl (by first | exact Or.inl rfl | exact Or.inr rfl | exact zb_01 _ | assumption) dX9_hasRoute_140 ?_
            show ∃ b : Bool, _
            rw [← hd9]
            first
            | (exfalso; omega)
            | (have hto9 : a9 = to := by omega
               refine ⟨true, rfl, rfl, hF, hF21, ⟨fun _ => by omega, fun _ => rfl⟩, fun _ => ⟨pre, ?_, ?_, by rw [hpl]; exact hwm, fun i hi => hpw i (by omega)⟩⟩
               · have := hpp [] hto9; rw [List.append_nil] at this; exact this
               · have q1 := zcnt_lt_n (P := fun u => d9 u < d9 fm) hfm (Nat.lt_irrefl _); omega)
            | exact ⟨false, rfl, rfl, hF, hF21, ⟨fun q => absurd q (by decide), fun q => by omega⟩, fun q => absurd q (by decide)⟩
        · skip
          try simp (disch := omega) only [zk0, nI_leI, nI_ltI, nI_eq, zbk_notn, zbk_not, zbk_n0, zbk_0, zb_0, zb_n0, zb_not, zb_notn, Bool.not_eq_false, Bool.not_eq_true, Bool.not_eq_true', Bool.not_eq_false', decide_eq_true_eq, decide_eq_false_iff_not, Classical.not_not] at c_25
          have hex : ∃ c, c < nc ∧ zcn ad ot rt br d9 a9 c := by rw [hd9e]; exact ztight (fun c hc => (hCR c hc).2.2.2.2.1) hDf hDc (fun q => c_25 q) (by rw [← hd9e]; omega)
          have hj7 : j9 + 1 < 8 := by have q1 := zcnt_lt_n (P := fun u => d9 u < d9 fm) hfm (Nat.lt_irrefl _); obtain ⟨c1, k1, k2⟩ := hex; have k3 : zoe ad ot c1 a9 < no := (by have k4 := hCR c1 k1; unfold zoe; split; exact k4.2.2.2.1; exact k4.2.1); have q2 := zcnt_pos (P := fun u => d9 u < d9 a9) k3 (by have := k2.2.2; omega); omega
          have loop_31 : ∀ (n : Nat) (c9 : Nat) (hcn : ∀ j, j < c9 → ¬ zcn ad ot rt br d9 a9 j) (hn : nc - c9 < n), z_V p l e (zRm MX9_hasRoute) s m args below meth c 5 D cy z0 0 0 (zQm MX9_hasRoute below D cy z0 (fun v g' σ' => ∃ b : Bool, v = some (.int (zb b)) ∧ g' = g ∧ (∀ i, i ≠ 21 → i ≠ 57 → i ≠ 58 → σ' i = σ i) ∧ (∀ k, k ≠ 46 → σ' 21 k = σ 21 k) ∧ (b = true ↔ (zrs ad ot rt br nc (zd0 1000000 to) 8) fm < 1000000) ∧ (b = true → ∃ l, zpath (zcn ad ot rt br (zrs ad ot rt br nc (zd0 1000000 to) 8)) (zoe ad ot) nc to fm l ∧ l.length < 8 ∧ σ' 21 46 = nI l.length ∧ ∀ i, i < l.length → σ' 58 i = nI (l.getD i 0))) args s) 31 [some (.ref (g.2.1 21)), some (.int (nI fm)), some (.int (nI to)), some (.int (nI a9)), some (.int (nI c9))] [] g τ := by
            intro n
            induction n with
            | zero => intro c9 hcn hn; exact absurd hn (Nat.not_lt_zero _)
            | succ n ih_31 =>
              intro c9 hcn hn
              have hc9 : c9 < nc := by
                obtain ⟨c1, h1, h2⟩ := hex
                rcases Nat.lt_or_ge c1 c9 with q | q
                · exact absurd h2 (hcn c1 q)
                · omega
              obtain ⟨h1, h2, h3, h4, h5, h6, h7, h8, h9, h10, h11, h12⟩ := hCRτ c9 hc9
              have hz1 := zend_1 (a := a9) h2 h4 hn8
              have hzl : zoe ad ot c9 a9 < no := by unfold zoe; split <;> assumption
              refine z_aload_n X dX9_hasRoute_31 rfl ?_
              refine z_getr2 X fX9_44 (zso_21 hS) (zsr_21_15 hS) rfl dX9_hasRoute_32 ?_
              refine z_iload X dX9_hasRoute_35 rfl ?_
              refine z_zaldN X (zsa_33 hS) (by omega) (by omega) dX9_hasRoute_37 ?_
              rw [h12]
              refine z_if_ne (tgt := 86) X dX9_hasRoute_38 (by decide) (fun c_38 => ?_) (fun c_38 => ?_)
              · skip
                try simp (disch := omega) only [zb_notn, zb_not, zb_n0, zb_0, Bool.not_eq_false, Bool.not_eq_true, Bool.not_eq_true', Bool.not_eq_false', decide_eq_true_eq, decide_eq_false_iff_not, Classical.not_not] at c_38
                have hN : ¬ zcn ad ot rt br d9 a9 c9 := fun q => by first | exact absurd q.1 (by rw [c_38]; decide) | exact (hz1.mp c_49) q.2.1 | (have q2 := q.2.2; omega)
                refine z_inc1 X dX9_hasRoute_86 rfl (by decide) ?_
                refine z_goto (tgt := 31) X dX9_hasRoute_89 (by decide) ?_
                exact ih_31 (c9 + 1) (fun j hj => by rcases Nat.lt_or_ge j c9 with q | q; exact hcn j q; (have e : j = c9 := by omega); subst e; exact hN) (by omega)
              · skip
                try simp (disch := omega) only [zb_notn, zb_not, zb_n0, zb_0, Bool.not_eq_false, Bool.not_eq_true, Bool.not_eq_true', Bool.not_eq_false', decide_eq_true_eq, decide_eq_false_iff_not, Classical.not_not] at c_38
                refine z_aload_n X dX9_hasRoute_41 rfl ?_
                refine z_iload X dX9_hasRoute_42 rfl ?_
                refine z_iload_n X dX9_hasRoute_44 rfl ?_
                refine z_runV X kX9_248 (tX9_end c9 a9 hS hn12 hn8 hCRτ hc9 (by omega)) (zso_21 hS) rfl rfl (Nat.le_of_ble_eq_true rfl) ⟨by decide, by decide⟩ ⟨by decide, by decide⟩ dX9_hasRoute_45 ?_
                rintro _ g1 s1 ⟨rfl, h8, h9⟩
                replace h8 := h8.symm
                subst h8
                replace h9 := h9.symm
                subst h9
                refine z_iconst (v := -1) X (by decide) dX9_hasRoute_48 ?_
                refine z_icmp_eq (tgt := 86) X dX9_hasRoute_49 (by decide) (fun c_49 => ?_) (fun c_49 => ?_)
                · skip
                  have hN : ¬ zcn ad ot rt br d9 a9 c9 := fun q => by first | exact absurd q.1 (by rw [c_38]; decide) | exact (hz1.mp c_49) q.2.1 | (have q2 := q.2.2; omega)
                  refine z_inc1 X dX9_hasRoute_86 rfl (by decide) ?_
                  refine z_goto (tgt := 31) X dX9_hasRoute_89 (by decide) ?_
                  exact ih_31 (c9 + 1) (fun j hj => by rcases Nat.lt_or_ge j c9 with q | q; exact hcn j q; (have e : j = c9 := by omega); subst e; exact hN) (by omega)
                · skip
                  refine z_aload_n X dX9_hasRoute_52 rfl ?_
                  refine z_getr2 X fX9_116 (zso_21 hS) (zsr_21_44 hS) rfl dX9_hasRoute_53 ?_
                  refine z_aload_n X dX9_hasRoute_56 rfl ?_
                  refine z_iload X dX9_hasRoute_57 rfl ?_
                  refine z_iload_n X dX9_hasRoute_59 rfl ?_
                  refine z_runV X kX9_248 (tX9_end c9 a9 hS hn12 hn8 hCRτ hc9 (by omega)) (zso_21 hS) rfl rfl (Nat.le_of_ble_eq_true rfl) ⟨by decide, by decide⟩ ⟨by decide, by decide⟩ dX9_hasRoute_60 ?_
                  rintro _ g1 s1 ⟨rfl, h8, h9⟩
                  replace h8 := h8.symm
                  subst h8
                  replace h9 := h9.symm
                  subst h9
                  have htz := Classical.not_not.mp (fun q => c_49 (hz1.mpr q))
                  rw [zend_t htz]
                  refine z_ialdN X (zsa_57 hS) (by omega) (by omega) dX9_hasRoute_63 ?_
                  rw [(hfv _ (by omega)).1]
                  have hb1 := (hfv (zoe ad ot c9 a9) (by omega)).2
                  refine z_bipush (v := nI 16) X (by decide) dX9_hasRoute_64 ?_
                  refine z_aload_n X dX9_hasRoute_66 rfl ?_
                  refine z_getr2 X fX9_38 (zso_21 hS) (zsr_21_13 hS) rfl dX9_hasRoute_67 ?_
                  refine z_iload X dX9_hasRoute_70 rfl ?_
                  refine z_ialdN X (zsa_31 hS) (by omega) (by omega) dX9_hasRoute_72 ?_
                  rw [h6]
                  refine z_imulN X dX9_hasRoute_73 ?_
                  refine z_iaddN X dX9_hasRoute_74 ?_
                  refine z_iconst (v := nI 1) X (by decide) dX9_hasRoute_75 ?_
                  refine z_iaddN X dX9_hasRoute_76 ?_
                  refine z_aload_n X dX9_hasRoute_77 rfl ?_
                  refine z_getr2 X fX9_116 (zso_21 hS) (zsr_21_44 hS) rfl dX9_hasRoute_78 ?_
                  refine z_iload_n X dX9_hasRoute_81 rfl ?_
                  refine z_ialdN X (zsa_57 hS) (by omega) (by omega) dX9_hasRoute_82 ?_
                  rw [(hfv a9 (by omega)).1]
                  refine z_icmp_eq (tgt := 92) X dX9_hasRoute_83 (by decide) (fun c_83 => ?_) (fun c_83 => ?_)
                  · skip
                    try simp (disch := omega) only [zk0, nI_leI, nI_ltI, nI_eq, zbk_notn, zbk_not, zbk_n0, zbk_0, zb_0, zb_n0, zb_not, zb_notn, Bool.not_eq_false, Bool.not_eq_true, Bool.not_eq_true', Bool.not_eq_false', decide_eq_true_eq, decide_eq_false_iff_not, Classical.not_not] at c_83
                    have hY : zcn ad ot rt br d9 a9 c9 := ⟨c_38, htz, by omega⟩
                    refine z_aload_n X dX9_hasRoute_92 rfl ?_
                    refine z_getr2 X fX9_119 (zso_21 hS) (zsr_21_45 hS) rfl dX9_hasRoute_93 ?_
                    refine z_aload_n X dX9_hasRoute_96 rfl ?_
                    refine z_geti X fX9_245 (zso_21 hS) rfl dX9_hasRoute_97 ?_
                    rw [hwm]
                    refine z_iload X dX9_hasRoute_100 rfl ?_
                    refine z_iastN X (zsa_58 hS) (by omega) (by omega) dX9_hasRoute_102 ?_
                    refine z_aload_n X dX9_hasRoute_103 rfl ?_
                    refine z_dup X rfl dX9_hasRoute_104 ?_
                    refine z_geti X fX9_245 (zso_21 hS) rfl dX9_hasRoute_105 ?_
                    rw [z_up_ne (by decide), hwm]
                    refine z_iconst (v := nI 1) X (by decide) dX9_hasRoute_108 ?_
                    refine z_iaddN X dX9_hasRoute_109 ?_
                    refine z_puti X fX9_245 (zso_21 hS) rfl dX9_hasRoute_110 ?_
                    refine z_aload_n X dX9_hasRoute_113 rfl ?_
                    refine z_iload X dX9_hasRoute_114 rfl ?_
                    refine z_iload_n X dX9_hasRoute_116 rfl ?_
                    refine z_runV X kX9_248 (tX9_end (nc := nc) (no := no) (ad := ad) (ot := ot) (rt := rt) (sp := sp) (br := br) c9 a9 hS hn12 hn8 (zCR_e hCRτ (fun i q1 q2 => by rw [z_up_ne (by omega), z_up_ne (by omega)])) hc9 (by omega)) (zso_21 hS) rfl rfl (Nat.le_of_ble_eq_true rfl) ⟨by decide, by decide⟩ ⟨by decide, by decide⟩ dX9_hasRoute_117 ?_
                    rintro _ g1 s1 ⟨rfl, h8, h9⟩
                    replace h8 := h8.symm
                    subst h8
                    replace h9 := h9.symm
                    subst h9
                    rw [zend_t htz]
                    refine z_istore_n X dX9_hasRoute_120 (by decide) ?_
                    refine z_goto (tgt := 12) X dX9_hasRoute_121 (by decide) ?_
                    have hd9 := hY.2.2
                    have hss := zcnt_ssub (P := fun u => d9 u < d9 (zoe ad ot c9 a9)) (Q := fun u => d9 u < d9 a9) hzl (fun q _ hq => by omega) (by omega) (by omega)
                    refine ih_12 (zoe ad ot c9 a9) (j9 + 1) _ _ (pre ++ [c9]) hzl (by omega) (fun i q1 q2 q3 => by rw [z_up_ne q1, z_up_ne q3]; exact hF i q1 q2 q3) (fun k hk => by rw [z_up_app, if_pos rfl, if_neg hk, z_up_ne (by decide)]; exact hF21 k hk) (fun v hv => by rw [z_up_ne (by decide), z_up_ne (by decide)]; exact hfv v hv) (by rw [z_up_app, if_pos rfl, if_pos rfl]) (by omega) (by simp [hpl]) (fun i hi => ?_) (fun l hl => ?_) (by omega)
                    · rw [z_up_ne (by decide), z_up_app, if_pos rfl]
                      by_cases e : i = j9
                      · subst e; rw [if_pos rfl, show (pre ++ [c9]).getD i 0 = c9 by simp [List.getD, ← hpl]]
                      · rw [if_neg e, show (pre ++ [c9]).getD i 0 = pre.getD i 0 by simp [List.getD, List.getElem?_append_left (show i < pre.length by omega)]]
                        exact hpw i (by omega)
                    · rw [List.append_assoc]
                      exact hpp (c9 :: l) ⟨fun q => c_25 q, hc9, hY, hcn, hl⟩
                  · skip
                    try simp (disch := omega) only [zk0, nI_leI, nI_ltI, nI_eq, zbk_notn, zbk_not, zbk_n0, zbk_0, zb_0, zb_n0, zb_not, zb_notn, Bool.not_eq_false, Bool.not_eq_true, Bool.not_eq_true', Bool.not_eq_false', decide_eq_true_eq, decide_eq_false_iff_not, Classical.not_not] at c_83
                    have hN : ¬ zcn ad ot rt br d9 a9 c9 := fun q => by first | exact absurd q.1 (by rw [c_38]; decide) | exact (hz1.mp c_49) q.2.1 | (have q2 := q.2.2; omega)
                    refine z_inc1 X dX9_hasRoute_86 rfl (by decide) ?_
                    refine z_goto (tgt := 31) X dX9_hasRoute_89 (by decide) ?_
                    exact ih_31 (c9 + 1) (fun j hj => by rcases Nat.lt_or_ge j c9 with q | q; exact hcn j q; (have e : j = c9 := by omega); subst e; exact hN) (by omega)
          refine z_iconst (v := nI 0) X (by decide) dX9_hasRoute_28 ?_
          refine z_istore X dX9_hasRoute_29 (by decide) ?_
          exact loop_31 (nc - 0 + 1) 0 (fun j hj => absurd hj (Nat.not_lt_zero _)) (by omega)
  refine z_iload_n X dX9_hasRoute_10 rfl ?_
  refine z_istore_n X dX9_hasRoute_11 (by decide) ?_
  exact loop_12 (zcnt (fun u => d9 u < d9 fm) no + 1) fm 0 _ _ [] hfm (Nat.le_refl _) (fun i q1 q2 q3 => by rw [z_up_ne q1]; exact hr1 i q2) (fun k hk => by rw [z_up_app, if_pos rfl, if_neg hk, hr1 21 (by decide)]) (fun v hv => by rw [z_up_ne (by decide)]; exact hr2 v hv) (by rw [z_up_app, if_pos rfl, if_pos rfl]) (by omega) rfl (fun i hi => absurd hi (Nat.not_lt_zero _)) (fun l hl => hl) (by omega)
