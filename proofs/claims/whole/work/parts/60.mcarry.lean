/-! contracts of the reference: carrying, a minute, passing -/
/-- the messages of the reference as they change: state, step, carried, is here, stopped at -/
abbrev zQ : Type := (Nat → Nat) × (Nat → Nat) × (Nat → Nat) × (Nat → Bool) × (Nat → Int32)
def zRs (σ : zIn) (nm no nc : Nat) (fm tt kd pd RL : Nat → Nat) (ro : Nat → Nat → Nat) (hc fb : Nat → Bool) (ad ot : Nat → Nat) : Prop := (∀ m, m < nm → (σ 41 m = nI (fm m) ∧ fm m < no) ∧ (σ 42 m = nI (tt m) ∧ tt m < no) ∧ (σ 43 m = nI (kd m) ∧ kd m ≤ 2) ∧ (σ 46 m = nI (pd m) ∧ 1 ≤ pd m ∧ pd m ≤ 1000) ∧ σ 49 m = zb (hc m) ∧ RL m < 8 ∧ ∀ k, k < RL m → σ 52 (8 * m + k) = nI (ro m k) ∧ ro m k < nc ∧ (zpt ad ot (ro m) (fm m) k = ad (ro m k) ∨ zpt ad ot (ro m) (fm m) k = ot (ro m k))) ∧ ∀ o, o < no → σ 25 o = zb (fb o)
def zRd (σ : zIn) (nm : Nat) (q : zQ) : Prop := ∀ m, m < nm → σ 44 m = nI (q.1 m) ∧ σ 54 m = nI (q.2.1 m) ∧ σ 55 m = nI (q.2.2.1 m) ∧ σ 56 m = zb (q.2.2.2.1 m) ∧ σ 48 m = q.2.2.2.2 m
def zRF (nm : Nat) (σ σ' : zIn) : Prop := (∀ i, i ≠ 44 → i ≠ 48 → i ≠ 54 → i ≠ 55 → i ≠ 56 → σ' i = σ i) ∧ ∀ j, nm ≤ j → σ' 56 j = σ 56 j
theorem zRF_t {nm : Nat} {a b c : zIn} (h1 : zRF nm a b) (h2 : zRF nm b c) : zRF nm a c := ⟨fun i q1 q2 q3 q4 q5 => (h2.1 i q1 q2 q3 q4 q5).trans (h1.1 i q1 q2 q3 q4 q5), fun j hj => (h2.2 j hj).trans (h1.2 j hj)⟩
theorem zRs_F {σ τ : zIn} {nm no nc : Nat} {fm tt kd pd RL : Nat → Nat} {ro : Nat → Nat → Nat} {hc fb : Nat → Bool} {ad ot : Nat → Nat} (h : zRs σ nm no nc fm tt kd pd RL ro hc fb ad ot) (hF : zRF nm σ τ) : zRs τ nm no nc fm tt kd pd RL ro hc fb ad ot := by
  unfold zRs
  rw [hF.1 41 (by decide) (by decide) (by decide) (by decide) (by decide), hF.1 42 (by decide) (by decide) (by decide) (by decide) (by decide), hF.1 43 (by decide) (by decide) (by decide) (by decide) (by decide), hF.1 46 (by decide) (by decide) (by decide) (by decide) (by decide), hF.1 49 (by decide) (by decide) (by decide) (by decide) (by decide), hF.1 52 (by decide) (by decide) (by decide) (by decide) (by decide), hF.1 25 (by decide) (by decide) (by decide) (by decide) (by decide)]
  exact h
theorem zCR_F {nm : Nat} {σ τ : zIn} {nc no : Nat} {ad ot rt sp : Nat → Nat} {br : Nat → Bool} (h : zCR σ nc no ad ot rt sp br) (hF : zRF nm σ τ) : zCR τ nc no ad ot rt sp br := zCR_e h (fun i h1 h2 => hF.1 i (by omega) (by omega) (by omega) (by omega) (by omega))
/-- one message carried by some words -/
def zrcy (fm tt pd : Nat → Nat) (ro : Nat → Nat → Nat) (hc fb : Nat → Bool) (ad ot : Nat → Nat) (m w : Nat) (q : zQ) : zQ :=
  if q.2.2.1 m + min (pd m - q.2.2.1 m) w = pd m then
    (zud q.1 m (if hc m && fb (zpt ad ot (ro m) (fm m) (q.2.1 m + 1)) then 2 else if zpt ad ot (ro m) (fm m) (q.2.1 m + 1) = tt m then 1 else q.1 m), zud q.2.1 m (q.2.1 m + 1), zud q.2.2.1 m 0, (fun i => if i = m then false else q.2.2.2.1 i), if hc m && fb (zpt ad ot (ro m) (fm m) (q.2.1 m + 1)) then zudI q.2.2.2.2 m (nI (zpt ad ot (ro m) (fm m) (q.2.1 m + 1))) else q.2.2.2.2)
  else (q.1, q.2.1, zud q.2.2.1 m (q.2.2.1 m + min (pd m - q.2.2.1 m) w), q.2.2.2.1, q.2.2.2.2)
theorem zcomeR_F {σ : zIn} {m o tt : Nat} {hc fb : Bool} {i : Nat} (h1 : i ≠ 44) (h2 : i ≠ 48) : zcomeR σ m o tt hc fb i = σ i := by
  unfold zcomeR
  split
  · rw [z_up_ne h2, z_up_ne h1]
  · split
    · rw [z_up_ne h1]
    · rfl
theorem zRd_ca {σ : zIn} {nm m x : Nat} {q : zQ} (h : zRd σ nm q) : zRd (z_up σ 55 m (nI x)) nm (q.1, q.2.1, zud q.2.2.1 m x, q.2.2.2.1, q.2.2.2.2) := by
  intro j hj
  obtain ⟨h1, h2, h3, h4, h5⟩ := h j hj
  refine ⟨by rw [z_up_ne (by decide)]; exact h1, by rw [z_up_ne (by decide)]; exact h2, ?_, by rw [z_up_ne (by decide)]; exact h4, by rw [z_up_ne (by decide)]; exact h5⟩
  rw [z_up_app, if_pos rfl]
  show _ = nI (zud q.2.2.1 m x j)
  unfold zud
  by_cases e : j = m
  · rw [if_pos e, if_pos e]
  · rw [if_neg e, if_neg e]; exact h3
theorem zRd_mv {σ : zIn} {nm m o tt : Nat} {hc fb : Bool} {x y : Int32} {q : zQ} (h : zRd σ nm q) (hm : m < nm) (hy : y = nI (q.2.1 m + 1)) : zRd (zcomeR (z_up (z_up (z_up (z_up σ 55 m x) 54 m y) 55 m (nI 0)) 56 m (nI 0)) m o tt hc fb) nm (zud q.1 m (if hc && fb then 2 else if o = tt then 1 else q.1 m), zud q.2.1 m (q.2.1 m + 1), zud q.2.2.1 m 0, (fun i => if i = m then false else q.2.2.2.1 i), if hc && fb then zudI q.2.2.2.2 m (nI o) else q.2.2.2.2) := by
  intro j hj
  obtain ⟨h1, h2, h3, h4, h5⟩ := h j hj
  subst hy
  have hmm := (h m hm).1
  refine ⟨?_, ?_, ?_, ?_, ?_⟩
  · show _ = nI (zud q.1 m _ j)
    unfold zcomeR zud
    cases hc <;> cases fb <;> by_cases e : j = m <;> by_cases e2 : o = tt <;> simp [z_up_app, e, e2, h1, hmm] <;> rfl
  · rw [zcomeR_F (by decide) (by decide)]
    show _ = nI (zud q.2.1 m (q.2.1 m + 1) j)
    unfold zud
    by_cases e : j = m <;> simp [z_up_app, e, h2]
  · rw [zcomeR_F (by decide) (by decide)]
    show _ = nI (zud q.2.2.1 m 0 j)
    unfold zud
    by_cases e : j = m <;> simp [z_up_app, e, h3]
  · rw [zcomeR_F (by decide) (by decide)]
    show _ = zb (if j = m then false else q.2.2.2.1 j)
    by_cases e : j = m
    · subst e; simp [z_up_app]; rfl
    · simp [z_up_app, e, h4]
  · show _ = (if hc && fb then zudI q.2.2.2.2 m (nI o) else q.2.2.2.2) j
    unfold zcomeR zudI
    cases hc <;> cases fb <;> by_cases e : j = m <;> by_cases e2 : o = tt <;> simp [z_up_app, e, e2, h5] <;> exact (h m hm).2.2.2.2
set_option maxHeartbeats 4000000 in
set_option maxRecDepth 100000 in
theorem tX9_carry {l : Launch} {D : va_G} {cy : Nat → ClassId} {z0 : Nat} {g : zSh} {σ : zIn} {nm no nc : Nat} {fm tt kd pd RL ad ot rt sp : Nat → Nat} {ro : Nat → Nat → Nat} {hc fb br : Nat → Bool} {q : zQ} (m9 w9 : Nat) (hS : zS g) (hn12 : nc ≤ 12) (hn8 : no ≤ 8) (hn60 : nm ≤ 60) (hCR : zCR σ nc no ad ot rt sp br) (hRs : zRs σ nm no nc fm tt kd pd RL ro hc fb ad ot) (hRd : zRd σ nm q) (hm : m9 < nm) (hsg : q.2.1 m9 < RL m9) (hcr : q.2.2.1 m9 ≤ pd m9) (hw : w9 ≤ 1000) : z_Ct l D cy z0 MX9_carry [.ref (g.2.1 21), .int (nI m9), .int (nI w9)] g σ (fun v g' σ' => v = some (.int (nI (min (pd m9 - q.2.2.1 m9) w9))) ∧ g' = g ∧ zRF nm σ σ' ∧ zRd σ' nm (zrcy fm tt pd ro hc fb ad ot m9 w9 q)) := by
  obtain ⟨⟨hfm, hfm2⟩, ⟨htt, htt2⟩, ⟨hkd, hkd2⟩, ⟨hpd, hpd1, hpd2⟩, hhc, hRL, hro⟩ := hRs.1 m9 hm
  obtain ⟨h44, h54, h55, h56, h48⟩ := hRd m9 hm
  obtain ⟨x9, hx9⟩ : ∃ x, x = min (pd m9 - q.2.2.1 m9) w9 := ⟨_, rfl⟩
  have hpl : zpt ad ot (ro m9) (fm m9) (q.2.1 m9 + 1) < no := by show zoe ad ot (ro m9 (q.2.1 m9)) (zpt ad ot (ro m9) (fm m9) (q.2.1 m9)) < no; have h1 := hCR _ (hro (q.2.1 m9) hsg).2.1; unfold zoe; split; exact h1.2.2.2.1; exact h1.2.1
  rw [← hx9]
  refine z_ofM (by decide) (z_cr (z_ci (z_ci z_c0))) (Nat.le_of_ble_eq_true rfl) ?_
  intro p e s m args below meth c X
  refine z_aload_n X dX9_carry_0 rfl ?_
  refine z_getr2 X fX9_83 (zso_21 hS) (zsr_21_33 hS) rfl dX9_carry_1 ?_
  refine z_iload_n X dX9_carry_4 rfl ?_
  refine z_ialdN X (zsa_46 hS) (by omega) (by omega) dX9_carry_5 ?_
  rw [hpd]
  refine z_aload_n X dX9_carry_6 rfl ?_
  refine z_getr2 X fX9_110 (zso_21 hS) (zsr_21_42 hS) rfl dX9_carry_7 ?_
  refine z_iload_n X dX9_carry_10 rfl ?_
  refine z_ialdN X (zsa_55 hS) (by omega) (by omega) dX9_carry_11 ?_
  rw [h55]
  refine z_isubN X (by omega) dX9_carry_12 ?_
  refine z_iload_n X dX9_carry_13 rfl ?_
  refine z_icmp_ge (tgt := 33) X dX9_carry_14 (by decide) (fun c_14 => ?_) (fun c_14 => ?_)
  · skip
    try simp (disch := omega) only [zk0, nI_leI, nI_ltI, nI_eq, zbk_notn, zbk_not, zbk_n0, zbk_0, zb_0, zb_n0, zb_not, zb_notn, Bool.not_eq_false, Bool.not_eq_true, Bool.not_eq_true', Bool.not_eq_false', decide_eq_true_eq, decide_eq_false_iff_not, Classical.not_not] at c_14
    refine z_iload_n X dX9_carry_33 rfl ?_
    first | rw [show pd m9 - q.2.2.1 m9 = x9 by omega] | rw [show Value.int (nI w9) :: ([] : List Value) = Value.int (nI x9) :: [] from by rw [show w9 = x9 by omega]]
    refine z_istore_n X dX9_carry_34 (by decide) ?_
    refine z_aload_n X dX9_carry_35 rfl ?_
    refine z_getr2 X fX9_110 (zso_21 hS) (zsr_21_42 hS) rfl dX9_carry_36 ?_
    refine z_iload_n X dX9_carry_39 rfl ?_
    refine z_dup2 X rfl rfl dX9_carry_40 ?_
    refine z_ialdN X (zsa_55 hS) (by omega) (by omega) dX9_carry_41 ?_
    rw [h55]
    refine z_iload_n X dX9_carry_42 rfl ?_
    refine z_iaddN X dX9_carry_43 ?_
    refine z_iastN X (zsa_55 hS) (by omega) (by omega) dX9_carry_44 ?_
    refine z_aload_n X dX9_carry_45 rfl ?_
    refine z_getr2 X fX9_110 (zso_21 hS) (zsr_21_42 hS) rfl dX9_carry_46 ?_
    refine z_iload_n X dX9_carry_49 rfl ?_
    refine z_ialdN X (zsa_55 hS) (by omega) (by omega) dX9_carry_50 ?_
    rw [z_up_app, if_pos rfl, if_pos rfl]
    refine z_aload_n X dX9_carry_51 rfl ?_
    refine z_getr2 X fX9_83 (zso_21 hS) (zsr_21_33 hS) rfl dX9_carry_52 ?_
    refine z_iload_n X dX9_carry_55 rfl ?_
    refine z_ialdN X (zsa_46 hS) (by omega) (by omega) dX9_carry_56 ?_
    rw [z_up_ne (by decide), hpd]
    refine z_icmp_ne (tgt := 98) X dX9_carry_57 (by decide) (fun c_57 => ?_) (fun c_57 => ?_)
    · skip
      try simp (disch := omega) only [zk0, nI_leI, nI_ltI, nI_eq, zbk_notn, zbk_not, zbk_n0, zbk_0, zb_0, zb_n0, zb_not, zb_notn, Bool.not_eq_false, Bool.not_eq_true, Bool.not_eq_true', Bool.not_eq_false', decide_eq_true_eq, decide_eq_false_iff_not, Classical.not_not] at c_57
      refine z_iload_n X dX9_carry_98 rfl ?_
      refine z_iret X (by decide) (by decide) rfl dX9_carry_99 ?_
      unfold zrcy
      rw [← hx9]
      first
      | (rw [if_pos (by omega)]
         exact ⟨rfl, rfl, ⟨fun i q1 q2 q3 q4 q5 => by rw [zcomeR_F q1 q2, z_up_ne q5, z_up_ne q4, z_up_ne q3, z_up_ne q4], fun j hj => by rw [zcomeR_F (by decide) (by decide), z_up_app, if_pos rfl, if_neg (by omega), z_up_ne (by decide), z_up_ne (by decide), z_up_ne (by decide)]⟩, zRd_mv hRd hm rfl⟩)
      | (rw [if_neg (by omega)]
         exact ⟨rfl, rfl, ⟨fun i q1 q2 q3 q4 q5 => z_up_ne q4, fun j hj => by rw [z_up_ne (by decide)]⟩, zRd_ca hRd⟩)
    · skip
      try simp (disch := omega) only [zk0, nI_leI, nI_ltI, nI_eq, zbk_notn, zbk_not, zbk_n0, zbk_0, zb_0, zb_n0, zb_not, zb_notn, Bool.not_eq_false, Bool.not_eq_true, Bool.not_eq_true', Bool.not_eq_false', decide_eq_true_eq, decide_eq_false_iff_not, Classical.not_not] at c_57
      refine z_aload_n X dX9_carry_60 rfl ?_
      refine z_iload_n X dX9_carry_61 rfl ?_
      refine z_runV X kX9_263 (tX9_behind (ro := ro m9) (fm := fm m9) m9 (q.2.1 m9) hS hn12 hn8 (zCR_e hCR (fun i q1 q2 => by rw [z_up_ne (by omega)])) (by omega) (by rw [z_up_ne (by decide)]; exact hfm) hfm2 (by rw [z_up_ne (by decide)]; exact h54) (by omega) (fun k hk => by rw [z_up_ne (by decide)]; exact ⟨(hro k (by omega)).1, (hro k (by omega)).2.1⟩) (fun k hk => (hro k (by omega)).2.2)) (zso_21 hS) rfl rfl (Nat.le_of_ble_eq_true rfl) ⟨by decide, by decide⟩ ⟨by decide, by decide⟩ dX9_carry_62 ?_
      rintro _ g1 s1 ⟨rfl, h8, h9⟩
      replace h8 := h8.symm
      subst h8
      replace h9 := h9.symm
      subst h9
      refine z_istore X dX9_carry_65 (by decide) ?_
      refine z_aload_n X dX9_carry_67 rfl ?_
      refine z_getr2 X fX9_107 (zso_21 hS) (zsr_21_41 hS) rfl dX9_carry_68 ?_
      refine z_iload_n X dX9_carry_71 rfl ?_
      refine z_dup2 X rfl rfl dX9_carry_72 ?_
      refine z_ialdN X (zsa_54 hS) (by omega) (by omega) dX9_carry_73 ?_
      rw [z_up_ne (by decide), h54]
      refine z_iconst (v := nI 1) X (by decide) dX9_carry_74 ?_
      refine z_iaddN X dX9_carry_75 ?_
      refine z_iastN X (zsa_54 hS) (by omega) (by omega) dX9_carry_76 ?_
      refine z_aload_n X dX9_carry_77 rfl ?_
      refine z_getr2 X fX9_110 (zso_21 hS) (zsr_21_42 hS) rfl dX9_carry_78 ?_
      refine z_iload_n X dX9_carry_81 rfl ?_
      refine z_iconst (v := nI 0) X (by decide) dX9_carry_82 ?_
      refine z_iastN X (zsa_55 hS) (by omega) (by omega) dX9_carry_83 ?_
      refine z_aload_n X dX9_carry_84 rfl ?_
      refine z_getr2 X fX9_113 (zso_21 hS) (zsr_21_43 hS) rfl dX9_carry_85 ?_
      refine z_iload_n X dX9_carry_88 rfl ?_
      refine z_iconst (v := nI 0) X (by decide) dX9_carry_89 ?_
      refine z_zastN X (zsa_56 hS) (by omega) (by omega) (by first | exact Or.inl rfl | exact Or.inr rfl | exact zb_01 _ | assumption) dX9_carry_90 ?_
      refine z_aload_n X dX9_carry_91 rfl ?_
      refine z_iload_n X dX9_carry_92 rfl ?_
      refine z_iload X dX9_carry_93 rfl ?_
      refine z_runV X kX9_254 (tX9_comes (tt := tt m9) (hc := hc m9) (fb := fb (zpt ad ot (ro m9) (fm m9) (q.2.1 m9 + 1))) m9 (zpt ad ot (ro m9) (fm m9) (q.2.1 m9 + 1)) hS (by omega) (by omega) (by simp (disch := omega) only [z_up_ne]; exact hhc) (by simp (disch := omega) only [z_up_ne]; exact hRs.2 _ hpl) (by simp (disch := omega) only [z_up_ne]; exact htt) (by omega)) (zso_21 hS) rfl rfl (Nat.le_of_ble_eq_true rfl) ⟨by decide, by decide⟩ ⟨by decide, by decide⟩ dX9_carry_95 ?_
      rintro _ g1 s1 ⟨rfl, h8, h9⟩
      replace h8 := h8.symm
      subst h8
      replace h9 := h9.symm
      subst h9
      refine z_iload_n X dX9_carry_98 rfl ?_
      refine z_iret X (by decide) (by decide) rfl dX9_carry_99 ?_
      unfold zrcy
      rw [← hx9]
      first
      | (rw [if_pos (by omega)]
         exact ⟨rfl, rfl, ⟨fun i q1 q2 q3 q4 q5 => by rw [zcomeR_F q1 q2, z_up_ne q5, z_up_ne q4, z_up_ne q3, z_up_ne q4], fun j hj => by rw [zcomeR_F (by decide) (by decide), z_up_app, if_pos rfl, if_neg (by omega), z_up_ne (by decide), z_up_ne (by decide), z_up_ne (by decide)]⟩, zRd_mv hRd hm rfl⟩)
      | (rw [if_neg (by omega)]
         exact ⟨rfl, rfl, ⟨fun i q1 q2 q3 q4 q5 => z_up_ne q4, fun j hj => by rw [z_up_ne (by decide)]⟩, zRd_ca hRd⟩)
  · skip
    try simp (disch := omega) only [zk0, nI_leI, nI_ltI, nI_eq, zbk_notn, zbk_not, zbk_n0, zbk_0, zb_0, zb_n0, zb_not, zb_notn, Bool.not_eq_false, Bool.not_eq_true, Bool.not_eq_true', Bool.not_eq_false', decide_eq_true_eq, decide_eq_false_iff_not, Classical.not_not] at c_14
    refine z_aload_n X dX9_carry_17 rfl ?_
    refine z_getr2 X fX9_83 (zso_21 hS) (zsr_21_33 hS) rfl dX9_carry_18 ?_
    refine z_iload_n X dX9_carry_21 rfl ?_
    refine z_ialdN X (zsa_46 hS) (by omega) (by omega) dX9_carry_22 ?_
    rw [hpd]
    refine z_aload_n X dX9_carry_23 rfl ?_
    refine z_getr2 X fX9_110 (zso_21 hS) (zsr_21_42 hS) rfl dX9_carry_24 ?_
    refine z_iload_n X dX9_carry_27 rfl ?_
    refine z_ialdN X (zsa_55 hS) (by omega) (by omega) dX9_carry_28 ?_
    rw [h55]
    refine z_isubN X (by omega) dX9_carry_29 ?_
    refine z_goto (tgt := 34) X dX9_carry_30 (by decide) ?_
    first | rw [show pd m9 - q.2.2.1 m9 = x9 by omega] | rw [show Value.int (nI w9) :: ([] : List Value) = Value.int (nI x9) :: [] from by rw [show w9 = x9 by omega]]
    refine z_istore_n X dX9_carry_34 (by decide) ?_
    refine z_aload_n X dX9_carry_35 rfl ?_
    refine z_getr2 X fX9_110 (zso_21 hS) (zsr_21_42 hS) rfl dX9_carry_36 ?_
    refine z_iload_n X dX9_carry_39 rfl ?_
    refine z_dup2 X rfl rfl dX9_carry_40 ?_
    refine z_ialdN X (zsa_55 hS) (by omega) (by omega) dX9_carry_41 ?_
    rw [h55]
    refine z_iload_n X dX9_carry_42 rfl ?_
    refine z_iaddN X dX9_carry_43 ?_
    refine z_iastN X (zsa_55 hS) (by omega) (by omega) dX9_carry_44 ?_
    refine z_aload_n X dX9_carry_45 rfl ?_
    refine z_getr2 X fX9_110 (zso_21 hS) (zsr_21_42 hS) rfl dX9_carry_46 ?_
    refine z_iload_n X dX9_carry_49 rfl ?_
    refine z_ialdN X (zsa_55 hS) (by omega) (by omega) dX9_carry_50 ?_
    rw [z_up_app, if_pos rfl, if_pos rfl]
    refine z_aload_n X dX9_carry_51 rfl ?_
    refine z_getr2 X fX9_83 (zso_21 hS) (zsr_21_33 hS) rfl dX9_carry_52 ?_
    refine z_iload_n X dX9_carry_55 rfl ?_
    refine z_ialdN X (zsa_46 hS) (by omega) (by omega) dX9_carry_56 ?_
    rw [z_up_ne (by decide), hpd]
    refine z_icmp_ne (tgt := 98) X dX9_carry_57 (by decide) (fun c_57 => ?_) (fun c_57 => ?_)
    · skip
      try simp (disch := omega) only [zk0, nI_leI, nI_ltI, nI_eq, zbk_notn, zbk_not, zbk_n0, zbk_0, zb_0, zb_n0, zb_not, zb_notn, Bool.not_eq_false, Bool.not_eq_true, Bool.not_eq_true', Bool.not_eq_false', decide_eq_true_eq, decide_eq_false_iff_not, Classical.not_not] at c_57
      refine z_iload_n X dX9_carry_98 rfl ?_
      refine z_iret X (by decide) (by decide) rfl dX9_carry_99 ?_
      unfold zrcy
      rw [← hx9]
      first
      | (rw [if_pos (by omega)]
         exact ⟨rfl, rfl, ⟨fun i q1 q2 q3 q4 q5 => by rw [zcomeR_F q1 q2, z_up_ne q5, z_up_ne q4, z_up_ne q3, z_up_ne q4], fun j hj => by rw [zcomeR_F (by decide) (by decide), z_up_app, if_pos rfl, if_neg (by omega), z_up_ne (by decide), z_up_ne (by decide), z_up_ne (by decide)]⟩, zRd_mv hRd hm rfl⟩)
      | (rw [if_neg (by omega)]
         exact ⟨rfl, rfl, ⟨fun i q1 q2 q3 q4 q5 => z_up_ne q4, fun j hj => by rw [z_up_ne (by decide)]⟩, zRd_ca hRd⟩)
    · skip
      try simp (disch := omega) only [zk0, nI_leI, nI_ltI, nI_eq, zbk_notn, zbk_not, zbk_n0, zbk_0, zb_0, zb_n0, zb_not, zb_notn, Bool.not_eq_false, Bool.not_eq_true, Bool.not_eq_true', Bool.not_eq_false', decide_eq_true_eq, decide_eq_false_iff_not, Classical.not_not] at c_57
      refine z_aload_n X dX9_carry_60 rfl ?_
      refine z_iload_n X dX9_carry_61 rfl ?_
      refine z_runV X kX9_263 (tX9_behind (ro := ro m9) (fm := fm m9) m9 (q.2.1 m9) hS hn12 hn8 (zCR_e hCR (fun i q1 q2 => by rw [z_up_ne (by omega)])) (by omega) (by rw [z_up_ne (by decide)]; exact hfm) hfm2 (by rw [z_up_ne (by decide)]; exact h54) (by omega) (fun k hk => by rw [z_up_ne (by decide)]; exact ⟨(hro k (by omega)).1, (hro k (by omega)).2.1⟩) (fun k hk => (hro k (by omega)).2.2)) (zso_21 hS) rfl rfl (Nat.le_of_ble_eq_true rfl) ⟨by decide, by decide⟩ ⟨by decide, by decide⟩ dX9_carry_62 ?_
      rintro _ g1 s1 ⟨rfl, h8, h9⟩
      replace h8 := h8.symm
      subst h8
      replace h9 := h9.symm
      subst h9
      refine z_istore X dX9_carry_65 (by decide) ?_
      refine z_aload_n X dX9_carry_67 rfl ?_
      refine z_getr2 X fX9_107 (zso_21 hS) (zsr_21_41 hS) rfl dX9_carry_68 ?_
      refine z_iload_n X dX9_carry_71 rfl ?_
      refine z_dup2 X rfl rfl dX9_carry_72 ?_
      refine z_ialdN X (zsa_54 hS) (by omega) (by omega) dX9_carry_73 ?_
      rw [z_up_ne (by decide), h54]
      refine z_iconst (v := nI 1) X (by decide) dX9_carry_74 ?_
      refine z_iaddN X dX9_carry_75 ?_
      refine z_iastN X (zsa_54 hS) (by omega) (by omega) dX9_carry_76 ?_
      refine z_aload_n X dX9_carry_77 rfl ?_
      refine z_getr2 X fX9_110 (zso_21 hS) (zsr_21_42 hS) rfl dX9_carry_78 ?_
      refine z_iload_n X dX9_carry_81 rfl ?_
      refine z_iconst (v := nI 0) X (by decide) dX9_carry_82 ?_
      refine z_iastN X (zsa_55 hS) (by omega) (by omega) dX9_carry_83 ?_
      refine z_aload_n X dX9_carry_84 rfl ?_
      refine z_getr2 X fX9_113 (zso_21 hS) (zsr_21_43 hS) rfl dX9_carry_85 ?_
      refine z_iload_n X dX9_carry_88 rfl ?_
      refine z_iconst (v := nI 0) X (by decide) dX9_carry_89 ?_
      refine z_zastN X (zsa_56 hS) (by omega) (by omega) (by first | exact Or.inl rfl | exact Or.inr rfl | exact zb_01 _ | assumption) dX9_carry_90 ?_
      refine z_aload_n X dX9_carry_91 rfl ?_
      refine z_iload_n X dX9_carry_92 rfl ?_
      refine z_iload X dX9_carry_93 rfl ?_
      refine z_runV X kX9_254 (tX9_comes (tt := tt m9) (hc := hc m9) (fb := fb (zpt ad ot (ro m9) (fm m9) (q.2.1 m9 + 1))) m9 (zpt ad ot (ro m9) (fm m9) (q.2.1 m9 + 1)) hS (by omega) (by omega) (by simp (disch := omega) only [z_up_ne]; exact hhc) (by simp (disch := omega) only [z_up_ne]; exact hRs.2 _ hpl) (by simp (disch := omega) only [z_up_ne]; exact htt) (by omega)) (zso_21 hS) rfl rfl (Nat.le_of_ble_eq_true rfl) ⟨by decide, by decide⟩ ⟨by decide, by decide⟩ dX9_carry_95 ?_
      rintro _ g1 s1 ⟨rfl, h8, h9⟩
      replace h8 := h8.symm
      subst h8
      replace h9 := h9.symm
      subst h9
      refine z_iload_n X dX9_carry_98 rfl ?_
      refine z_iret X (by decide) (by decide) rfl dX9_carry_99 ?_
      unfold zrcy
      rw [← hx9]
      first
      | (rw [if_pos (by omega)]
         exact ⟨rfl, rfl, ⟨fun i q1 q2 q3 q4 q5 => by rw [zcomeR_F q1 q2, z_up_ne q5, z_up_ne q4, z_up_ne q3, z_up_ne q4], fun j hj => by rw [zcomeR_F (by decide) (by decide), z_up_app, if_pos rfl, if_neg (by omega), z_up_ne (by decide), z_up_ne (by decide), z_up_ne (by decide)]⟩, zRd_mv hRd hm rfl⟩)
      | (rw [if_neg (by omega)]
         exact ⟨rfl, rfl, ⟨fun i q1 q2 q3 q4 q5 => z_up_ne q4, fun j hj => by rw [z_up_ne (by decide)]⟩, zRd_ca hRd⟩)
