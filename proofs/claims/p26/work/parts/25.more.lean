/-! contracts: the book, searches and puts; the draft; packer and net, small ones -/
set_option maxHeartbeats 4000000 in
set_option maxRecDepth 100000 in
theorem tX0_shifted {l : Launch} {D : va_G} {cy : Nat → ClassId} {z0 : zRg} {g : zSh} {σ : zIn} {ne : Nat} (k : Nat) (b : Int32) (hS : zS g) (he : σ 2 5 = nI ne) (he2 : ne ≤ 40) (hk : k < ne) (h1 : -100 ≤ b.toInt) (h2 : b.toInt ≤ 100) : z_Ct l D cy z0 MX0_shifted [.ref (g.2.1 2), .int (nI k), .int b] g σ (zI (nI (((k : Int) + b.toInt) % ne).toNat) g σ) := by
  refine z_ofM (by decide) (z_cr (z_ci (z_ci z_c0))) (Nat.le_of_ble_eq_true rfl) ?_
  intro p e s m args below meth c X
  have ea : (nI k + b).toInt = (k : Int) + b.toInt := by rw [fb_addI (by rw [nI_toInt (by omega)]; omega) (by rw [nI_toInt (by omega)]; omega), nI_toInt (by omega)]
  refine z_aload_n X dX0_shifted_0 rfl ?_
  refine z_geti X fX0_28 (zso_2 hS) rfl dX0_shifted_1 ?_
  try simp (disch := omega) only [z_up_app, z_put_app, reduceIte, Nat.reduceEqDiff, he]
  refine z_if_le (tgt := 12) X dX0_shifted_4 (by decide) (fun c_4 => ?_) (fun c_4 => ?_)
  · skip
    try simp (disch := omega) only [zk0, nI_leI, nI_ltI, nI_eq, zbk_notn, zbk_not, zbk_n0, zbk_0, zb_0, zb_n0, zb_not, zb_notn, Bool.not_eq_false, Bool.not_eq_true, Bool.not_eq_true', Bool.not_eq_false', decide_eq_true_eq, decide_eq_false_iff_not, Classical.not_not] at c_4
    omega
  · skip
    try simp (disch := omega) only [zk0, nI_leI, nI_ltI, nI_eq, zbk_notn, zbk_not, zbk_n0, zbk_0, zb_0, zb_n0, zb_not, zb_notn, Bool.not_eq_false, Bool.not_eq_true, Bool.not_eq_true', Bool.not_eq_false', decide_eq_true_eq, decide_eq_false_iff_not, Classical.not_not] at c_4
    refine z_iload_n X dX0_shifted_7 rfl ?_
    refine z_iconst (v := -1) X (by decide) dX0_shifted_8 ?_
    refine z_icmp_ne (tgt := 16) X dX0_shifted_9 (by decide) (fun c_9 => ?_) (fun c_9 => ?_)
    · skip
      refine z_iload_n X dX0_shifted_16 rfl ?_
      refine z_iload_n X dX0_shifted_17 rfl ?_
      refine z_iadd X dX0_shifted_18 ?_
      refine z_aload_n X dX0_shifted_19 rfl ?_
      refine z_geti X fX0_28 (zso_2 hS) rfl dX0_shifted_20 ?_
      try simp (disch := omega) only [z_up_app, z_put_app, reduceIte, Nat.reduceEqDiff, he]
      refine z_runS X kX0_65 (tJ9_floorMod_7cf53 (nI k + b) ne (by omega) (by omega) (by omega) (by omega)) rfl rfl (Nat.le_of_ble_eq_true rfl) ⟨by decide, by decide⟩ ⟨by decide, by decide⟩ dX0_shifted_23 ?_
      rintro _ g1 s1 ⟨rfl, h8, h9⟩
      replace h8 := h8.symm
      subst h8
      replace h9 := h9.symm
      subst h9
      refine z_iret X (by decide) (by decide) rfl dX0_shifted_26 ?_
      exact zI_e (by rw [ea]) rfl rfl
    · exact absurd c_9 (nI_ne_m1 (by omega))

set_option maxHeartbeats 4000000 in
set_option maxRecDepth 100000 in
theorem tX0_shiftedN {l : Launch} {D : va_G} {cy : Nat → ClassId} {z0 : zRg} {g : zSh} {σ : zIn} {ne : Nat} (b : Int32) (hS : zS g) (he : σ 2 5 = nI ne) (he2 : ne ≤ 40) : z_Ct l D cy z0 MX0_shifted [.ref (g.2.1 2), .int (-1), .int b] g σ (zI (-1) g σ) := by
  refine z_ofM (by decide) (z_cr (z_ci (z_ci z_c0))) (Nat.le_of_ble_eq_true rfl) ?_
  intro p e s m args below meth c X
  refine z_aload_n X dX0_shifted_0 rfl ?_
  refine z_geti X fX0_28 (zso_2 hS) rfl dX0_shifted_1 ?_
  try simp (disch := omega) only [z_up_app, z_put_app, reduceIte, Nat.reduceEqDiff, he]
  refine z_if_le (tgt := 12) X dX0_shifted_4 (by decide) (fun c_4 => ?_) (fun c_4 => ?_)
  · skip
    try simp (disch := omega) only [zk0, nI_leI, nI_ltI, nI_eq, zbk_notn, zbk_not, zbk_n0, zbk_0, zb_0, zb_n0, zb_not, zb_notn, Bool.not_eq_false, Bool.not_eq_true, Bool.not_eq_true', Bool.not_eq_false', decide_eq_true_eq, decide_eq_false_iff_not, Classical.not_not] at c_4
    refine z_iconst (v := -1) X (by decide) dX0_shifted_12 ?_
    refine z_goto (tgt := 26) X dX0_shifted_13 (by decide) ?_
    refine z_iret X (by decide) (by decide) rfl dX0_shifted_26 ?_
    exact zI_e rfl rfl rfl
  · skip
    try simp (disch := omega) only [zk0, nI_leI, nI_ltI, nI_eq, zbk_notn, zbk_not, zbk_n0, zbk_0, zb_0, zb_n0, zb_not, zb_notn, Bool.not_eq_false, Bool.not_eq_true, Bool.not_eq_true', Bool.not_eq_false', decide_eq_true_eq, decide_eq_false_iff_not, Classical.not_not] at c_4
    refine z_iload_n X dX0_shifted_7 rfl ?_
    refine z_iconst (v := -1) X (by decide) dX0_shifted_8 ?_
    refine z_icmp_ne (tgt := 16) X dX0_shifted_9 (by decide) (fun c_9 => ?_) (fun c_9 => ?_)
    · exact absurd rfl c_9
    · skip
      refine z_iconst (v := -1) X (by decide) dX0_shifted_12 ?_
      refine z_goto (tgt := 26) X dX0_shifted_13 (by decide) ?_
      refine z_iret X (by decide) (by decide) rfl dX0_shifted_26 ?_
      exact zI_e rfl rfl rfl

set_option maxHeartbeats 4000000 in
set_option maxRecDepth 100000 in
theorem tX0_addFind {l : Launch} {D : va_G} {cy : Nat → ClassId} {z0 : zRg} {g : zSh} {σ : zIn} (c9 k : Nat) (hS : zS g) (hc : σ 2 6 = nI c9) (hc2 : c9 < 40) : z_Ct l D cy z0 MX0_addFind [.ref (g.2.1 2), .int (nI k)] g σ (zN g (z_up (z_up σ 6 c9 (nI k)) 2 6 (nI (c9 + 1)))) := by
  refine z_ofM (by decide) (z_cr (z_ci z_c0)) (Nat.le_of_ble_eq_true rfl) ?_
  intro p e s m args below meth c X
  refine z_aload_n X dX0_addFind_0 rfl ?_
  refine z_geti X fX0_31 (zso_2 hS) rfl dX0_addFind_1 ?_
  try simp (disch := omega) only [z_up_app, z_put_app, reduceIte, Nat.reduceEqDiff, hc]
  refine z_aload_n X dX0_addFind_4 rfl ?_
  refine z_getr2 X fX0_21 (zso_2 hS) (zsr_2_3 hS) rfl dX0_addFind_5 ?_
  refine z_alen X (t := 0) (by decide) (zsa_6 hS) dX0_addFind_8 ?_
  refine z_icmp_ge (tgt := 32) X dX0_addFind_9 (by decide) (fun c_9 => ?_) (fun c_9 => ?_)
  · skip
    try simp (disch := omega) only [zk0, nI_leI, nI_ltI, nI_eq, zbk_notn, zbk_not, zbk_n0, zbk_0, zb_0, zb_n0, zb_not, zb_notn, Bool.not_eq_false, Bool.not_eq_true, Bool.not_eq_true', Bool.not_eq_false', decide_eq_true_eq, decide_eq_false_iff_not, Classical.not_not] at c_9
    omega
  · skip
    try simp (disch := omega) only [zk0, nI_leI, nI_ltI, nI_eq, zbk_notn, zbk_not, zbk_n0, zbk_0, zb_0, zb_n0, zb_not, zb_notn, Bool.not_eq_false, Bool.not_eq_true, Bool.not_eq_true', Bool.not_eq_false', decide_eq_true_eq, decide_eq_false_iff_not, Classical.not_not] at c_9
    refine z_aload_n X dX0_addFind_12 rfl ?_
    refine z_getr2 X fX0_21 (zso_2 hS) (zsr_2_3 hS) rfl dX0_addFind_13 ?_
    refine z_aload_n X dX0_addFind_16 rfl ?_
    refine z_geti X fX0_31 (zso_2 hS) rfl dX0_addFind_17 ?_
    try simp (disch := omega) only [z_up_app, z_put_app, reduceIte, Nat.reduceEqDiff, hc]
    refine z_iload_n X dX0_addFind_20 rfl ?_
    refine z_iastN X (zsa_6 hS) (by omega) (by omega) dX0_addFind_21 ?_
    refine z_aload_n X dX0_addFind_22 rfl ?_
    refine z_dup X rfl dX0_addFind_23 ?_
    refine z_geti X fX0_31 (zso_2 hS) rfl dX0_addFind_24 ?_
    try simp (disch := omega) only [z_up_app, z_put_app, reduceIte, Nat.reduceEqDiff, hc]
    refine z_iconst (v := nI 1) X (by decide) dX0_addFind_27 ?_
    refine z_iaddN X dX0_addFind_28 ?_
    refine z_puti X fX0_31 (zso_2 hS) rfl dX0_addFind_29 ?_
    refine z_vret X (by decide) (by decide) rfl dX0_addFind_32 ?_
    exact ⟨rfl, rfl, rfl⟩

set_option maxHeartbeats 4000000 in
set_option maxRecDepth 100000 in
theorem tX0_findAt {l : Launch} {D : va_G} {cy : Nat → ClassId} {z0 : zRg} {g : zSh} {σ : zIn} {c9 : Nat} (i : Int32) (hS : zS g) (hc : σ 2 6 = nI c9) (hc2 : c9 ≤ 40) : z_Ct l D cy z0 MX0_findAt [.ref (g.2.1 2), .int i] g σ (zI (if zin i c9 = true then σ 6 i.toNatClampNeg else -1) g σ) := by
  refine z_ofM (by decide) (z_cr (z_ci z_c0)) (Nat.le_of_ble_eq_true rfl) ?_
  intro p e s m args below meth c X
  refine z_iload_n X dX0_findAt_0 rfl ?_
  refine z_iconst (v := nI 0) X (by decide) dX0_findAt_1 ?_
  refine z_aload_n X dX0_findAt_2 rfl ?_
  refine z_geti X fX0_31 (zso_2 hS) rfl dX0_findAt_3 ?_
  try simp (disch := omega) only [z_up_app, z_put_app, reduceIte, Nat.reduceEqDiff, hc]
  refine z_iconst (v := nI 1) X (by decide) dX0_findAt_6 ?_
  refine z_isub X dX0_findAt_7 ?_
  refine z_runS X kX0_34 (tOut i (by omega)) rfl rfl (Nat.le_of_ble_eq_true rfl) ⟨by decide, by decide⟩ ⟨by decide, by decide⟩ dX0_findAt_8 ?_
  rintro _ g1 s1 ⟨rfl, h8, h9⟩
  replace h8 := h8.symm
  subst h8
  replace h9 := h9.symm
  subst h9
  refine z_if_ne (tgt := 23) X dX0_findAt_11 (by decide) (fun c_11 => ?_) (fun c_11 => ?_)
  · skip
    try simp (disch := omega) only [zk0, nI_leI, nI_ltI, nI_eq, zbk_notn, zbk_not, zbk_n0, zbk_0, zb_0, zb_n0, zb_not, zb_notn, Bool.not_eq_false, Bool.not_eq_true, Bool.not_eq_true', Bool.not_eq_false', decide_eq_true_eq, decide_eq_false_iff_not, Classical.not_not] at c_11
    refine z_iconst (v := -1) X (by decide) dX0_findAt_23 ?_
    refine z_goto (tgt := 33) X dX0_findAt_24 (by decide) ?_
    refine z_iret X (by decide) (by decide) rfl dX0_findAt_33 ?_
    first
      | exact zI_e (by rw [if_pos c_11, nI_clamp (by omega)]) rfl rfl
      | exact zI_e (by rw [if_neg (by rw [c_11]; decide)]) rfl rfl
  · skip
    try simp (disch := omega) only [zk0, nI_leI, nI_ltI, nI_eq, zbk_notn, zbk_not, zbk_n0, zbk_0, zb_0, zb_n0, zb_not, zb_notn, Bool.not_eq_false, Bool.not_eq_true, Bool.not_eq_true', Bool.not_eq_false', decide_eq_true_eq, decide_eq_false_iff_not, Classical.not_not] at c_11
    obtain ⟨j, hj, rfl⟩ := zin_t c_11 (by omega)
    refine z_iload_n X dX0_findAt_14 rfl ?_
    refine z_aload_n X dX0_findAt_15 rfl ?_
    refine z_getr2 X fX0_21 (zso_2 hS) (zsr_2_3 hS) rfl dX0_findAt_16 ?_
    refine z_alen X (t := 0) (by decide) (zsa_6 hS) dX0_findAt_19 ?_
    refine z_icmp_lt (tgt := 27) X dX0_findAt_20 (by decide) (fun c_20 => ?_) (fun c_20 => ?_)
    · skip
      try simp (disch := omega) only [zk0, nI_leI, nI_ltI, nI_eq, zbk_notn, zbk_not, zbk_n0, zbk_0, zb_0, zb_n0, zb_not, zb_notn, Bool.not_eq_false, Bool.not_eq_true, Bool.not_eq_true', Bool.not_eq_false', decide_eq_true_eq, decide_eq_false_iff_not, Classical.not_not] at c_20
      refine z_aload_n X dX0_findAt_27 rfl ?_
      refine z_getr2 X fX0_21 (zso_2 hS) (zsr_2_3 hS) rfl dX0_findAt_28 ?_
      refine z_iload_n X dX0_findAt_31 rfl ?_
      refine z_ialdN X (zsa_6 hS) (by omega) (by omega) dX0_findAt_32 ?_
      refine z_iret X (by decide) (by decide) rfl dX0_findAt_33 ?_
      first
        | exact zI_e (by rw [if_pos c_11, nI_clamp (by omega)]) rfl rfl
        | exact zI_e (by rw [if_neg (by rw [c_11]; decide)]) rfl rfl
    · skip
      try simp (disch := omega) only [zk0, nI_leI, nI_ltI, nI_eq, zbk_notn, zbk_not, zbk_n0, zbk_0, zb_0, zb_n0, zb_not, zb_notn, Bool.not_eq_false, Bool.not_eq_true, Bool.not_eq_true', Bool.not_eq_false', decide_eq_true_eq, decide_eq_false_iff_not, Classical.not_not] at c_20
      omega

/-- what a search has found: entry k at place zcnt P k -/
def zfd (P : Nat → Prop) (n : Nat) (σ : zIn) : Prop := σ 2 6 = nI (zcnt P n) ∧ ∀ k, k < n → P k → σ 6 (zcnt P k) = nI k
theorem zfd_y {P : Nat → Prop} {n : Nat} {σ : zIn} (h : zfd P n σ) (hp : P n) : zfd P (n + 1) (z_up (z_up σ 6 (zcnt P n) (nI n)) 2 6 (nI (zcnt P n + 1))) := by
  refine ⟨by rw [zcnt_y hp]; simp [z_up], fun k hk hpk => ?_⟩
  by_cases e : k = n
  · subst e; simp [z_up]
  · have h1 := h.2 k (by omega) hpk
    have h2 : zcnt P k ≠ zcnt P n := fun q => e (zcnt_inj hpk hp q)
    simp only [z_up_app, reduceIte, Nat.reduceEqDiff, if_neg h2]; exact h1
theorem zfd_n {P : Nat → Prop} {n : Nat} {σ : zIn} (h : zfd P n σ) (hp : ¬ P n) : zfd P (n + 1) σ := by
  refine ⟨by rw [zcnt_n hp]; exact h.1, fun k hk hpk => h.2 k ?_ hpk⟩
  by_cases e : k = n
  · subst e; exact absurd hpk hp
  · omega
theorem zfd_c {P Q : Nat → Prop} {n : Nat} {σ : zIn} (h : ∀ k, k < n → (P k ↔ Q k)) (h1 : zfd P n σ) : zfd Q n σ := by
  refine ⟨by rw [← zcnt_congr h]; exact h1.1, fun k hk hq => ?_⟩
  rw [← zcnt_congr (n := k) (fun j hj => h j (by omega))]
  exact h1.2 k hk ((h k hk).mpr hq)
theorem zfo_find {a σ : zIn} {c : Nat} {x y : Int32} (h : zfo a σ) : zfo a (z_up (z_up σ 6 c x) 2 6 y) := by
  refine ⟨fun i h1 h2 => ?_, fun k h1 => ?_⟩
  · rw [z_up_ne h2, z_up_ne h1]; exact h.1 i h1 h2
  · simp only [z_up_app, reduceIte, Nat.reduceEqDiff, if_neg h1]; exact h.2 k h1
set_option maxHeartbeats 4000000 in
set_option maxRecDepth 100000 in
theorem tX0_search {l : Launch} {D : va_G} {cy : Nat → ClassId} {z0 : zRg} {g : zSh} {σ : zIn} {ne : Nat} (w : Nat) (hS : zS g) (he : σ 2 5 = nI ne) (he2 : ne ≤ 40) (hC : ∀ k, k < ne → zwd (σ 4 k)) (hw : w < 11881376) : z_Ct l D cy z0 MX0_search [.ref (g.2.1 2), .int (nI w)] g σ (fun v g' σ' => v = none ∧ g' = g ∧ zfo σ σ' ∧ zfd (zP (σ 4) ne (nI w)) ne σ') := by
  refine z_ofM (by decide) (z_cr (z_ci z_c0)) (Nat.le_of_ble_eq_true rfl) ?_
  intro p e s m args below meth c X
  have loop_45 : ∀ (n : Nat) (k : Nat) (τ : zIn) (hno : ∀ j, j < ne → σ 4 j ≠ nI w) (hk : k ≤ ne) (hf : zfo σ τ) (hd : zfd (fun j => zp (nI w) (σ 4 j) = 1 ∨ zt (nI w) (σ 4 j)) k τ) (hn : ne - k < n), z_V p l e (zRm MX0_search) s m args below meth c 3 D cy z0 0 0 (zQm MX0_search below D cy z0 (fun v g' σ' => v = none ∧ g' = g ∧ zfo σ σ' ∧ zfd (zP (σ 4) ne (nI w)) ne σ') args s) 45 [some (.ref (g.2.1 2)), some (.int (nI w)), some (.int (nI k))] [] g τ := by
    intro n
    induction n with
    | zero => intro k τ hno hk hf hd hn; exact absurd hn (Nat.not_lt_zero _)
    | succ n ih_45 =>
      intro k τ hno hk hf hd hn
      have het : τ 2 5 = nI ne := (hf.2 5 (by decide)).trans he
      have h4 : τ 4 = σ 4 := hf.1 4 (by decide) (by decide)
      have hcl := zcnt_le (fun j => zp (nI w) (σ 4 j) = 1 ∨ zt (nI w) (σ 4 j)) k
      refine z_iload_n X dX0_search_45 rfl ?_
      refine z_aload_n X dX0_search_46 rfl ?_
      refine z_geti X fX0_28 (zso_2 hS) rfl dX0_search_47 ?_
      try simp (disch := omega) only [z_up_app, z_put_app, reduceIte, Nat.reduceEqDiff, het, hd.1]
      refine z_icmp_ge (tgt := 89) X dX0_search_50 (by decide) (fun c_50 => ?_) (fun c_50 => ?_)
      · skip
        try simp (disch := omega) only [zk0, nI_leI, nI_ltI, nI_eq, zbk_notn, zbk_not, zbk_n0, zbk_0, zb_0, zb_n0, zb_not, zb_notn, Bool.not_eq_false, Bool.not_eq_true, Bool.not_eq_true', Bool.not_eq_false', decide_eq_true_eq, decide_eq_false_iff_not, Classical.not_not] at c_50
        refine z_vret X (by decide) (by decide) rfl dX0_search_89 ?_
        have e : k = ne := by omega
        subst e
        exact ⟨rfl, rfl, hf, zfd_c (fun j hj => ⟨fun h => Or.inr ⟨hno, h⟩, fun h => h.elim (fun q => absurd q (hno j hj)) (fun q => q.2)⟩) hd⟩
      · skip
        try simp (disch := omega) only [zk0, nI_leI, nI_ltI, nI_eq, zbk_notn, zbk_not, zbk_n0, zbk_0, zb_0, zb_n0, zb_not, zb_notn, Bool.not_eq_false, Bool.not_eq_true, Bool.not_eq_true', Bool.not_eq_false', decide_eq_true_eq, decide_eq_false_iff_not, Classical.not_not] at c_50
        refine z_iload_n X dX0_search_53 rfl ?_
        refine z_aload_n X dX0_search_54 rfl ?_
        refine z_iload_n X dX0_search_55 rfl ?_
        refine z_runV X kX0_49 (tX0_codeOf k hS het he2 (by omega)) (zso_2 hS) rfl rfl (Nat.le_of_ble_eq_true rfl) ⟨by decide, by decide⟩ ⟨by decide, by decide⟩ dX0_search_56 ?_
        rintro _ g1 s1 ⟨rfl, h8, h9⟩
        replace h8 := h8.symm
        subst h8
        replace h9 := h9.symm
        subst h9
        obtain ⟨W, hW1, hW2⟩ := hC k (by omega)
        rw [h4, hW2]
        have hpp : zp (nI w) (nI W) ≤ 5 := zpk_le _ _ 5
        refine z_runS X kX0_53 (tX8_partsOf w W (by omega) (by omega)) rfl rfl (Nat.le_of_ble_eq_true rfl) ⟨by decide, by decide⟩ ⟨by decide, by decide⟩ dX0_search_59 ?_
        rintro _ g1 s1 ⟨rfl, h8, h9⟩
        replace h8 := h8.symm
        subst h8
        replace h9 := h9.symm
        subst h9
        refine z_iconst (v := nI 1) X (by decide) dX0_search_62 ?_
        refine z_icmp_eq (tgt := 78) X dX0_search_63 (by decide) (fun c_63 => ?_) (fun c_63 => ?_)
        · skip
          try simp (disch := omega) only [nI_eq] at c_63
          refine z_aload_n X dX0_search_78 rfl ?_
          refine z_iload_n X dX0_search_79 rfl ?_
          refine z_runV X kX0_70 (tX0_addFind (zcnt (fun j => zp (nI w) (σ 4 j) = 1 ∨ zt (nI w) (σ 4 j)) k) k hS hd.1 (by omega)) (zso_2 hS) rfl rfl (Nat.le_of_ble_eq_true rfl) ⟨by decide, by decide⟩ ⟨by decide, by decide⟩ dX0_search_80 ?_
          rintro _ g1 s1 ⟨rfl, h8, h9⟩
          replace h8 := h8.symm
          subst h8
          replace h9 := h9.symm
          subst h9
          refine z_inc1 X dX0_search_83 rfl (by decide) ?_
          refine z_goto (tgt := 45) X dX0_search_86 (by decide) ?_
          first
            | exact ih_45 (k + 1) _ hno (by omega) (zfo_find hf) (zfd_y (P := fun j => zp (nI w) (σ 4 j) = 1 ∨ zt (nI w) (σ 4 j)) hd (by rw [hW2]; first | exact Or.inl c_63 | exact Or.inr (ht.mp c_75))) (by omega)
            | exact ih_45 (k + 1) _ hno (by omega) hf (zfd_n (P := fun j => zp (nI w) (σ 4 j) = 1 ∨ zt (nI w) (σ 4 j)) hd (by rw [hW2]; rintro (q | q); exact c_63 q; rw [ht.mpr q] at c_75; cases c_75)) (by omega)
        · skip
          try simp (disch := omega) only [nI_eq] at c_63
          refine z_iload_n X dX0_search_66 rfl ?_
          refine z_aload_n X dX0_search_67 rfl ?_
          refine z_iload_n X dX0_search_68 rfl ?_
          refine z_runV X kX0_49 (tX0_codeOf k hS het he2 (by omega)) (zso_2 hS) rfl rfl (Nat.le_of_ble_eq_true rfl) ⟨by decide, by decide⟩ ⟨by decide, by decide⟩ dX0_search_69 ?_
          rintro _ g1 s1 ⟨rfl, h8, h9⟩
          replace h8 := h8.symm
          subst h8
          replace h9 := h9.symm
          subst h9
          rw [h4, hW2]
          refine z_runS X kX0_74 (tX8_isTurned w W (by omega) (by omega)) rfl rfl (Nat.le_of_ble_eq_true rfl) ⟨by decide, by decide⟩ ⟨by decide, by decide⟩ dX0_search_72 ?_
          rintro _ g1 s1 ⟨t, rfl, h8, h9, ht⟩
          replace h8 := h8.symm
          subst h8
          replace h9 := h9.symm
          subst h9
          refine z_if_eq (tgt := 83) X dX0_search_75 (by decide) (fun c_75 => ?_) (fun c_75 => ?_)
          · skip
            try simp (disch := omega) only [zk0, nI_leI, nI_ltI, nI_eq, zbk_notn, zbk_not, zbk_n0, zbk_0, zb_0, zb_n0, zb_not, zb_notn, Bool.not_eq_false, Bool.not_eq_true, Bool.not_eq_true', Bool.not_eq_false', decide_eq_true_eq, decide_eq_false_iff_not, Classical.not_not] at c_75
            refine z_inc1 X dX0_search_83 rfl (by decide) ?_
            refine z_goto (tgt := 45) X dX0_search_86 (by decide) ?_
            first
              | exact ih_45 (k + 1) _ hno (by omega) (zfo_find hf) (zfd_y (P := fun j => zp (nI w) (σ 4 j) = 1 ∨ zt (nI w) (σ 4 j)) hd (by rw [hW2]; first | exact Or.inl c_63 | exact Or.inr (ht.mp c_75))) (by omega)
              | exact ih_45 (k + 1) _ hno (by omega) hf (zfd_n (P := fun j => zp (nI w) (σ 4 j) = 1 ∨ zt (nI w) (σ 4 j)) hd (by rw [hW2]; rintro (q | q); exact c_63 q; rw [ht.mpr q] at c_75; cases c_75)) (by omega)
          · skip
            try simp (disch := omega) only [zk0, nI_leI, nI_ltI, nI_eq, zbk_notn, zbk_not, zbk_n0, zbk_0, zb_0, zb_n0, zb_not, zb_notn, Bool.not_eq_false, Bool.not_eq_true, Bool.not_eq_true', Bool.not_eq_false', decide_eq_true_eq, decide_eq_false_iff_not, Classical.not_not] at c_75
            refine z_aload_n X dX0_search_78 rfl ?_
            refine z_iload_n X dX0_search_79 rfl ?_
            refine z_runV X kX0_70 (tX0_addFind (zcnt (fun j => zp (nI w) (σ 4 j) = 1 ∨ zt (nI w) (σ 4 j)) k) k hS hd.1 (by omega)) (zso_2 hS) rfl rfl (Nat.le_of_ble_eq_true rfl) ⟨by decide, by decide⟩ ⟨by decide, by decide⟩ dX0_search_80 ?_
            rintro _ g1 s1 ⟨rfl, h8, h9⟩
            replace h8 := h8.symm
            subst h8
            replace h9 := h9.symm
            subst h9
            refine z_inc1 X dX0_search_83 rfl (by decide) ?_
            refine z_goto (tgt := 45) X dX0_search_86 (by decide) ?_
            first
              | exact ih_45 (k + 1) _ hno (by omega) (zfo_find hf) (zfd_y (P := fun j => zp (nI w) (σ 4 j) = 1 ∨ zt (nI w) (σ 4 j)) hd (by rw [hW2]; first | exact Or.inl c_63 | exact Or.inr (ht.mp c_75))) (by omega)
              | exact ih_45 (k + 1) _ hno (by omega) hf (zfd_n (P := fun j => zp (nI w) (σ 4 j) = 1 ∨ zt (nI w) (σ 4 j)) hd (by rw [hW2]; rintro (q | q); exact c_63 q; rw [ht.mpr q] at c_75; cases c_75)) (by omega)
  have loop_7 : ∀ (n : Nat) (k : Nat) (τ : zIn) (hk : k ≤ ne) (hf : zfo σ τ) (hd : zfd (fun j => σ 4 j = nI w) k τ) (hn : ne - k < n), z_V p l e (zRm MX0_search) s m args below meth c 3 D cy z0 0 0 (zQm MX0_search below D cy z0 (fun v g' σ' => v = none ∧ g' = g ∧ zfo σ σ' ∧ zfd (zP (σ 4) ne (nI w)) ne σ') args s) 7 [some (.ref (g.2.1 2)), some (.int (nI w)), some (.int (nI k))] [] g τ := by
    intro n
    induction n with
    | zero => intro k τ hk hf hd hn; exact absurd hn (Nat.not_lt_zero _)
    | succ n ih_7 =>
      intro k τ hk hf hd hn
      have het : τ 2 5 = nI ne := (hf.2 5 (by decide)).trans he
      have h4 : τ 4 = σ 4 := hf.1 4 (by decide) (by decide)
      have hcl := zcnt_le (fun j => σ 4 j = nI w) k
      refine z_iload_n X dX0_search_7 rfl ?_
      refine z_aload_n X dX0_search_8 rfl ?_
      refine z_geti X fX0_28 (zso_2 hS) rfl dX0_search_9 ?_
      try simp (disch := omega) only [z_up_app, z_put_app, reduceIte, Nat.reduceEqDiff, het, hd.1]
      refine z_icmp_ge (tgt := 35) X dX0_search_12 (by decide) (fun c_12 => ?_) (fun c_12 => ?_)
      · skip
        try simp (disch := omega) only [zk0, nI_leI, nI_ltI, nI_eq, zbk_notn, zbk_not, zbk_n0, zbk_0, zb_0, zb_n0, zb_not, zb_notn, Bool.not_eq_false, Bool.not_eq_true, Bool.not_eq_true', Bool.not_eq_false', decide_eq_true_eq, decide_eq_false_iff_not, Classical.not_not] at c_12
        refine z_aload_n X dX0_search_35 rfl ?_
        refine z_geti X fX0_31 (zso_2 hS) rfl dX0_search_36 ?_
        try simp (disch := omega) only [z_up_app, z_put_app, reduceIte, Nat.reduceEqDiff, het, hd.1]
        refine z_if_le (tgt := 43) X dX0_search_39 (by decide) (fun c_39 => ?_) (fun c_39 => ?_)
        · skip
          try simp (disch := omega) only [zk0, nI_leI, nI_ltI, nI_eq, zbk_notn, zbk_not, zbk_n0, zbk_0, zb_0, zb_n0, zb_not, zb_notn, Bool.not_eq_false, Bool.not_eq_true, Bool.not_eq_true', Bool.not_eq_false', decide_eq_true_eq, decide_eq_false_iff_not, Classical.not_not] at c_39
          refine z_iconst (v := nI 0) X (by decide) dX0_search_43 ?_
          refine z_istore_n X dX0_search_44 (by decide) ?_
          have hno : ∀ j, j < ne → σ 4 j ≠ nI w := by
            intro j hj hq
            have hlt := zcnt_lt (P := fun j => σ 4 j = nI w) (show j < k by omega) hq
            omega
          exact loop_45 (ne - 0 + 1) 0 _ hno (by omega) hf ⟨by rw [hd.1]; congr 1; simp only [zcnt]; omega, fun k hk _ => absurd hk (Nat.not_lt_zero _)⟩ (by omega)
        · skip
          try simp (disch := omega) only [zk0, nI_leI, nI_ltI, nI_eq, zbk_notn, zbk_not, zbk_n0, zbk_0, zb_0, zb_n0, zb_not, zb_notn, Bool.not_eq_false, Bool.not_eq_true, Bool.not_eq_true', Bool.not_eq_false', decide_eq_true_eq, decide_eq_false_iff_not, Classical.not_not] at c_39
          refine z_vret X (by decide) (by decide) rfl dX0_search_42 ?_
          have e : k = ne := by omega
          subst e
          refine ⟨rfl, rfl, hf, zfd_c (fun j hj => ?_) hd⟩
          obtain ⟨j0, hj0, hp0, -⟩ := zcnt_sur (P := fun j => σ 4 j = nI w) (n := k) (j := 0) (by omega)
          exact ⟨fun h => Or.inl h, fun h => h.elim id (fun q => absurd hp0 (q.1 j0 hj0))⟩
      · skip
        try simp (disch := omega) only [zk0, nI_leI, nI_ltI, nI_eq, zbk_notn, zbk_not, zbk_n0, zbk_0, zb_0, zb_n0, zb_not, zb_notn, Bool.not_eq_false, Bool.not_eq_true, Bool.not_eq_true', Bool.not_eq_false', decide_eq_true_eq, decide_eq_false_iff_not, Classical.not_not] at c_12
        refine z_aload_n X dX0_search_15 rfl ?_
        refine z_iload_n X dX0_search_16 rfl ?_
        refine z_runV X kX0_49 (tX0_codeOf k hS het he2 (by omega)) (zso_2 hS) rfl rfl (Nat.le_of_ble_eq_true rfl) ⟨by decide, by decide⟩ ⟨by decide, by decide⟩ dX0_search_17 ?_
        rintro _ g1 s1 ⟨rfl, h8, h9⟩
        replace h8 := h8.symm
        subst h8
        replace h9 := h9.symm
        subst h9
        rw [h4]
        refine z_iload_n X dX0_search_20 rfl ?_
        refine z_icmp_ne (tgt := 29) X dX0_search_21 (by decide) (fun c_21 => ?_) (fun c_21 => ?_)
        · skip
          refine z_inc1 X dX0_search_29 rfl (by decide) ?_
          refine z_goto (tgt := 7) X dX0_search_32 (by decide) ?_
          first
            | exact ih_7 (k + 1) _ (by omega) (zfo_find hf) (zfd_y (P := fun j => σ 4 j = nI w) hd c_21) (by omega)
            | exact ih_7 (k + 1) _ (by omega) hf (zfd_n (P := fun j => σ 4 j = nI w) hd c_21) (by omega)
        · skip
          refine z_aload_n X dX0_search_24 rfl ?_
          refine z_iload_n X dX0_search_25 rfl ?_
          refine z_runV X kX0_70 (tX0_addFind (zcnt (fun j => σ 4 j = nI w) k) k hS hd.1 (by omega)) (zso_2 hS) rfl rfl (Nat.le_of_ble_eq_true rfl) ⟨by decide, by decide⟩ ⟨by decide, by decide⟩ dX0_search_26 ?_
          rintro _ g1 s1 ⟨rfl, h8, h9⟩
          replace h8 := h8.symm
          subst h8
          replace h9 := h9.symm
          subst h9
          refine z_inc1 X dX0_search_29 rfl (by decide) ?_
          refine z_goto (tgt := 7) X dX0_search_32 (by decide) ?_
          first
            | exact ih_7 (k + 1) _ (by omega) (zfo_find hf) (zfd_y (P := fun j => σ 4 j = nI w) hd c_21) (by omega)
            | exact ih_7 (k + 1) _ (by omega) hf (zfd_n (P := fun j => σ 4 j = nI w) hd c_21) (by omega)
  refine z_aload_n X dX0_search_0 rfl ?_
  refine z_iconst (v := nI 0) X (by decide) dX0_search_1 ?_
  refine z_puti X fX0_31 (zso_2 hS) rfl dX0_search_2 ?_
  refine z_iconst (v := nI 0) X (by decide) dX0_search_5 ?_
  refine z_istore_n X dX0_search_6 (by decide) ?_
  exact loop_7 (ne - 0 + 1) 0 _ (by omega) ⟨fun i h1 h2 => z_up_ne h2, fun k h1 => by simp [z_up, h1]⟩ ⟨by simp [z_up, zcnt], fun k hk _ => absurd hk (Nat.not_lt_zero _)⟩ (by omega)

def zonly (C : Nat → Int32) (n : Nat) (w : Int32) (r : Int32) : Prop := (zcnt (zP C n w) n = 1 ∧ ∃ k, k < n ∧ zP C n w k ∧ r = nI k) ∨ (zcnt (zP C n w) n ≠ 1 ∧ r = -1)
set_option maxHeartbeats 4000000 in
set_option maxRecDepth 100000 in
theorem tX0_onlyFind {l : Launch} {D : va_G} {cy : Nat → ClassId} {z0 : zRg} {g : zSh} {σ : zIn} {ne : Nat} (w : Nat) (hS : zS g) (he : σ 2 5 = nI ne) (he2 : ne ≤ 40) (hC : ∀ k, k < ne → zwd (σ 4 k)) (hw : w < 11881376) : z_Ct l D cy z0 MX0_onlyFind [.ref (g.2.1 2), .int (nI w)] g σ (fun v g' σ' => ∃ r, v = some (.int r) ∧ g' = g ∧ zfo σ σ' ∧ zonly (σ 4) ne (nI w) r) := by
  refine z_ofM (by decide) (z_cr (z_ci z_c0)) (Nat.le_of_ble_eq_true rfl) ?_
  intro p e s m args below meth c X
  refine z_aload_n X dX0_onlyFind_0 rfl ?_
  refine z_iload_n X dX0_onlyFind_1 rfl ?_
  refine z_runV X kX0_78 (tX0_search w hS he he2 hC hw) (zso_2 hS) rfl rfl (Nat.le_of_ble_eq_true rfl) ⟨by decide, by decide⟩ ⟨by decide, by decide⟩ dX0_onlyFind_2 ?_
  rintro _ g1 τ ⟨rfl, h8, hf, hd⟩
  replace h8 := h8.symm
  subst h8
  have hcl := zcnt_le (zP (σ 4) ne (nI w)) ne
  refine z_aload_n X dX0_onlyFind_5 rfl ?_
  refine z_geti X fX0_31 (zso_2 hS) rfl dX0_onlyFind_6 ?_
  refine z_iconst (v := nI 1) X (by decide) dX0_onlyFind_9 ?_
  rw [hd.1]
  refine z_icmp_ne (tgt := 21) X dX0_onlyFind_10 (by decide) (fun c_10 => ?_) (fun c_10 => ?_)
  · skip
    try simp (disch := omega) only [zk0, nI_leI, nI_ltI, nI_eq, zbk_notn, zbk_not, zbk_n0, zbk_0, zb_0, zb_n0, zb_not, zb_notn, Bool.not_eq_false, Bool.not_eq_true, Bool.not_eq_true', Bool.not_eq_false', decide_eq_true_eq, decide_eq_false_iff_not, Classical.not_not] at c_10
    refine z_iconst (v := -1) X (by decide) dX0_onlyFind_21 ?_
    refine z_iret X (by decide) (by decide) rfl dX0_onlyFind_22 ?_
    first
      | (obtain ⟨k, hk1, hk2, hk3⟩ := zcnt_sur (P := zP (σ 4) ne (nI w)) (n := ne) (j := 0) (by omega)
         refine ⟨_, rfl, rfl, hf, Or.inl ⟨c_10, k, hk1, hk2, ?_⟩⟩
         rw [if_pos (zin_nI (by omega) (by decide)), nI_clamp (by decide)]
         have := hd.2 k hk1 hk2
         rw [hk3] at this; exact this)
      | exact ⟨_, rfl, rfl, hf, Or.inr ⟨c_10, rfl⟩⟩
  · skip
    try simp (disch := omega) only [zk0, nI_leI, nI_ltI, nI_eq, zbk_notn, zbk_not, zbk_n0, zbk_0, zb_0, zb_n0, zb_not, zb_notn, Bool.not_eq_false, Bool.not_eq_true, Bool.not_eq_true', Bool.not_eq_false', decide_eq_true_eq, decide_eq_false_iff_not, Classical.not_not] at c_10
    refine z_aload_n X dX0_onlyFind_13 rfl ?_
    refine z_iconst (v := nI 0) X (by decide) dX0_onlyFind_14 ?_
    refine z_runV X kX0_81 (tX0_findAt (nI 0) hS hd.1 (by omega)) (zso_2 hS) rfl rfl (Nat.le_of_ble_eq_true rfl) ⟨by decide, by decide⟩ ⟨by decide, by decide⟩ dX0_onlyFind_15 ?_
    rintro _ g1 s1 ⟨rfl, h8, h9⟩
    replace h8 := h8.symm
    subst h8
    replace h9 := h9.symm
    subst h9
    refine z_goto (tgt := 22) X dX0_onlyFind_18 (by decide) ?_
    refine z_iret X (by decide) (by decide) rfl dX0_onlyFind_22 ?_
    first
      | (obtain ⟨k, hk1, hk2, hk3⟩ := zcnt_sur (P := zP (σ 4) ne (nI w)) (n := ne) (j := 0) (by omega)
         refine ⟨_, rfl, rfl, hf, Or.inl ⟨c_10, k, hk1, hk2, ?_⟩⟩
         rw [if_pos (zin_nI (by omega) (by decide)), nI_clamp (by decide)]
         have := hd.2 k hk1 hk2
         rw [hk3] at this; exact this)
      | exact ⟨_, rfl, rfl, hf, Or.inr ⟨c_10, rfl⟩⟩

set_option maxHeartbeats 4000000 in
set_option maxRecDepth 100000 in
theorem tX0_addIdea {l : Launch} {D : va_G} {cy : Nat → ClassId} {z0 : zRg} {g : zSh} {σ : zIn} {ni : Nat} (v : Int32) (hS : zS g) (hi : σ 2 4 = nI ni) (hi2 : ni < 30) : z_Ct l D cy z0 MX0_addIdea [.ref (g.2.1 2), .int v] g σ (zI (nI ni) g (z_up (z_up σ 3 ni v) 2 4 (nI (ni + 1)))) := by
  refine z_ofM (by decide) (z_cr (z_ci z_c0)) (Nat.le_of_ble_eq_true rfl) ?_
  intro p e s m args below meth c X
  refine z_aload_n X dX0_addIdea_0 rfl ?_
  refine z_geti X fX0_24 (zso_2 hS) rfl dX0_addIdea_1 ?_
  try simp (disch := omega) only [z_up_app, z_put_app, reduceIte, Nat.reduceEqDiff, hi]
  refine z_aload_n X dX0_addIdea_4 rfl ?_
  refine z_getr2 X fX0_9 (zso_2 hS) (zsr_2_0 hS) rfl dX0_addIdea_5 ?_
  refine z_alen X (t := 0) (by decide) (zsa_3 hS) dX0_addIdea_8 ?_
  refine z_icmp_lt (tgt := 14) X dX0_addIdea_9 (by decide) (fun c_9 => ?_) (fun c_9 => ?_)
  · skip
    try simp (disch := omega) only [zk0, nI_leI, nI_ltI, nI_eq, zbk_notn, zbk_not, zbk_n0, zbk_0, zb_0, zb_n0, zb_not, zb_notn, Bool.not_eq_false, Bool.not_eq_true, Bool.not_eq_true', Bool.not_eq_false', decide_eq_true_eq, decide_eq_false_iff_not, Classical.not_not] at c_9
    refine z_aload_n X dX0_addIdea_14 rfl ?_
    refine z_getr2 X fX0_9 (zso_2 hS) (zsr_2_0 hS) rfl dX0_addIdea_15 ?_
    refine z_aload_n X dX0_addIdea_18 rfl ?_
    refine z_geti X fX0_24 (zso_2 hS) rfl dX0_addIdea_19 ?_
    try simp (disch := omega) only [z_up_app, z_put_app, reduceIte, Nat.reduceEqDiff, hi]
    refine z_iload_n X dX0_addIdea_22 rfl ?_
    refine z_iastN X (zsa_3 hS) (by omega) (by omega) dX0_addIdea_23 ?_
    refine z_aload_n X dX0_addIdea_24 rfl ?_
    refine z_dup X rfl dX0_addIdea_25 ?_
    refine z_geti X fX0_24 (zso_2 hS) rfl dX0_addIdea_26 ?_
    try simp (disch := omega) only [z_up_app, z_put_app, reduceIte, Nat.reduceEqDiff, hi]
    refine z_iconst (v := nI 1) X (by decide) dX0_addIdea_29 ?_
    refine z_iaddN X dX0_addIdea_30 ?_
    refine z_puti X fX0_24 (zso_2 hS) rfl dX0_addIdea_31 ?_
    refine z_aload_n X dX0_addIdea_34 rfl ?_
    refine z_geti X fX0_24 (zso_2 hS) rfl dX0_addIdea_35 ?_
    try simp (disch := omega) only [z_up_app, z_put_app, reduceIte, Nat.reduceEqDiff, hi]
    refine z_iconst (v := nI 1) X (by decide) dX0_addIdea_38 ?_
    refine z_isubN X (by omega) dX0_addIdea_39 ?_
    refine z_iret X (by decide) (by decide) rfl dX0_addIdea_40 ?_
    exact zI_e (by congr 1) rfl rfl
  · skip
    try simp (disch := omega) only [zk0, nI_leI, nI_ltI, nI_eq, zbk_notn, zbk_not, zbk_n0, zbk_0, zb_0, zb_n0, zb_not, zb_notn, Bool.not_eq_false, Bool.not_eq_true, Bool.not_eq_true', Bool.not_eq_false', decide_eq_true_eq, decide_eq_false_iff_not, Classical.not_not] at c_9
    omega

set_option maxHeartbeats 4000000 in
set_option maxRecDepth 100000 in
theorem tX0_addIdeaF {l : Launch} {D : va_G} {cy : Nat → ClassId} {z0 : zRg} {g : zSh} {σ : zIn} (v : Int32) (hS : zS g) (hi : σ 2 4 = nI 30) : z_Ct l D cy z0 MX0_addIdea [.ref (g.2.1 2), .int v] g σ (zI (-1) g σ) := by
  refine z_ofM (by decide) (z_cr (z_ci z_c0)) (Nat.le_of_ble_eq_true rfl) ?_
  intro p e s m args below meth c X
  refine z_aload_n X dX0_addIdea_0 rfl ?_
  refine z_geti X fX0_24 (zso_2 hS) rfl dX0_addIdea_1 ?_
  try simp (disch := omega) only [z_up_app, z_put_app, reduceIte, Nat.reduceEqDiff, hi]
  refine z_aload_n X dX0_addIdea_4 rfl ?_
  refine z_getr2 X fX0_9 (zso_2 hS) (zsr_2_0 hS) rfl dX0_addIdea_5 ?_
  refine z_alen X (t := 0) (by decide) (zsa_3 hS) dX0_addIdea_8 ?_
  refine z_icmp_lt (tgt := 14) X dX0_addIdea_9 (by decide) (fun c_9 => ?_) (fun c_9 => ?_)
  · skip
    try simp (disch := omega) only [zk0, nI_leI, nI_ltI, nI_eq, zbk_notn, zbk_not, zbk_n0, zbk_0, zb_0, zb_n0, zb_not, zb_notn, Bool.not_eq_false, Bool.not_eq_true, Bool.not_eq_true', Bool.not_eq_false', decide_eq_true_eq, decide_eq_false_iff_not, Classical.not_not] at c_9
    omega
  · skip
    try simp (disch := omega) only [zk0, nI_leI, nI_ltI, nI_eq, zbk_notn, zbk_not, zbk_n0, zbk_0, zb_0, zb_n0, zb_not, zb_notn, Bool.not_eq_false, Bool.not_eq_true, Bool.not_eq_true', Bool.not_eq_false', decide_eq_true_eq, decide_eq_false_iff_not, Classical.not_not] at c_9
    refine z_iconst (v := -1) X (by decide) dX0_addIdea_12 ?_
    refine z_iret X (by decide) (by decide) rfl dX0_addIdea_13 ?_
    exact zI_e rfl rfl rfl

set_option maxHeartbeats 4000000 in
set_option maxRecDepth 100000 in
theorem tX0_addEntry {l : Launch} {D : va_G} {cy : Nat → ClassId} {z0 : zRg} {g : zSh} {σ : zIn} {ne : Nat} (w a b c9 d : Int32) (hS : zS g) (he : σ 2 5 = nI ne) (he2 : ne < 40) : z_Ct l D cy z0 MX0_addEntry [.ref (g.2.1 2), .int w, .int a, .int b, .int c9, .int d] g σ (zI (nI ne) g (z_up (z_up (z_up (z_up (z_up (z_up σ 4 ne w) 5 (ne * 4) a) 5 (ne * 4 + 1) b) 5 (ne * 4 + 2) c9) 5 (ne * 4 + 3) d) 2 5 (nI (ne + 1)))) := by
  refine z_ofM (by decide) (z_cr (z_ci (z_ci (z_ci (z_ci (z_ci z_c0)))))) (Nat.le_of_ble_eq_true rfl) ?_
  intro p e s m args below meth c X
  refine z_aload_n X dX0_addEntry_0 rfl ?_
  refine z_geti X fX0_28 (zso_2 hS) rfl dX0_addEntry_1 ?_
  try simp (disch := omega) only [z_up_app, z_put_app, reduceIte, Nat.reduceEqDiff, he]
  refine z_iconst (v := nI 4) X (by decide) dX0_addEntry_4 ?_
  refine z_imulN X dX0_addEntry_5 ?_
  refine z_istore X dX0_addEntry_6 (by decide) ?_
  refine z_aload_n X dX0_addEntry_8 rfl ?_
  refine z_geti X fX0_28 (zso_2 hS) rfl dX0_addEntry_9 ?_
  try simp (disch := omega) only [z_up_app, z_put_app, reduceIte, Nat.reduceEqDiff, he]
  refine z_aload_n X dX0_addEntry_12 rfl ?_
  refine z_getr2 X fX0_15 (zso_2 hS) (zsr_2_1 hS) rfl dX0_addEntry_13 ?_
  refine z_alen X (t := 0) (by decide) (zsa_4 hS) dX0_addEntry_16 ?_
  refine z_icmp_ge (tgt := 32) X dX0_addEntry_17 (by decide) (fun c_17 => ?_) (fun c_17 => ?_)
  · skip
    try simp (disch := omega) only [zk0, nI_leI, nI_ltI, nI_eq, zbk_notn, zbk_not, zbk_n0, zbk_0, zb_0, zb_n0, zb_not, zb_notn, Bool.not_eq_false, Bool.not_eq_true, Bool.not_eq_true', Bool.not_eq_false', decide_eq_true_eq, decide_eq_false_iff_not, Classical.not_not] at c_17
    omega
  · skip
    try simp (disch := omega) only [zk0, nI_leI, nI_ltI, nI_eq, zbk_notn, zbk_not, zbk_n0, zbk_0, zb_0, zb_n0, zb_not, zb_notn, Bool.not_eq_false, Bool.not_eq_true, Bool.not_eq_true', Bool.not_eq_false', decide_eq_true_eq, decide_eq_false_iff_not, Classical.not_not] at c_17
    refine z_iload X dX0_addEntry_20 rfl ?_
    refine z_iconst (v := nI 3) X (by decide) dX0_addEntry_22 ?_
    refine z_iaddN X dX0_addEntry_23 ?_
    refine z_aload_n X dX0_addEntry_24 rfl ?_
    refine z_getr2 X fX0_18 (zso_2 hS) (zsr_2_2 hS) rfl dX0_addEntry_25 ?_
    refine z_alen X (t := 0) (by decide) (zsa_5 hS) dX0_addEntry_28 ?_
    refine z_icmp_lt (tgt := 34) X dX0_addEntry_29 (by decide) (fun c_29 => ?_) (fun c_29 => ?_)
    · skip
      try simp (disch := omega) only [zk0, nI_leI, nI_ltI, nI_eq, zbk_notn, zbk_not, zbk_n0, zbk_0, zb_0, zb_n0, zb_not, zb_notn, Bool.not_eq_false, Bool.not_eq_true, Bool.not_eq_true', Bool.not_eq_false', decide_eq_true_eq, decide_eq_false_iff_not, Classical.not_not] at c_29
      refine z_aload_n X dX0_addEntry_34 rfl ?_
      refine z_getr2 X fX0_15 (zso_2 hS) (zsr_2_1 hS) rfl dX0_addEntry_35 ?_
      refine z_aload_n X dX0_addEntry_38 rfl ?_
      refine z_geti X fX0_28 (zso_2 hS) rfl dX0_addEntry_39 ?_
      try simp (disch := omega) only [z_up_app, z_put_app, reduceIte, Nat.reduceEqDiff, he]
      refine z_iload_n X dX0_addEntry_42 rfl ?_
      refine z_iastN X (zsa_4 hS) (by omega) (by omega) dX0_addEntry_43 ?_
      refine z_aload_n X dX0_addEntry_44 rfl ?_
      refine z_getr2 X fX0_18 (zso_2 hS) (zsr_2_2 hS) rfl dX0_addEntry_45 ?_
      refine z_iload X dX0_addEntry_48 rfl ?_
      refine z_iload_n X dX0_addEntry_50 rfl ?_
      refine z_iastN X (zsa_5 hS) (by omega) (by omega) dX0_addEntry_51 ?_
      refine z_aload_n X dX0_addEntry_52 rfl ?_
      refine z_getr2 X fX0_18 (zso_2 hS) (zsr_2_2 hS) rfl dX0_addEntry_53 ?_
      refine z_iload X dX0_addEntry_56 rfl ?_
      refine z_iconst (v := nI 1) X (by decide) dX0_addEntry_58 ?_
      refine z_iaddN X dX0_addEntry_59 ?_
      refine z_iload_n X dX0_addEntry_60 rfl ?_
      refine z_iastN X (zsa_5 hS) (by omega) (by omega) dX0_addEntry_61 ?_
      refine z_aload_n X dX0_addEntry_62 rfl ?_
      refine z_getr2 X fX0_18 (zso_2 hS) (zsr_2_2 hS) rfl dX0_addEntry_63 ?_
      refine z_iload X dX0_addEntry_66 rfl ?_
      refine z_iconst (v := nI 2) X (by decide) dX0_addEntry_68 ?_
      refine z_iaddN X dX0_addEntry_69 ?_
      refine z_iload X dX0_addEntry_70 rfl ?_
      refine z_iastN X (zsa_5 hS) (by omega) (by omega) dX0_addEntry_72 ?_
      refine z_aload_n X dX0_addEntry_73 rfl ?_
      refine z_getr2 X fX0_18 (zso_2 hS) (zsr_2_2 hS) rfl dX0_addEntry_74 ?_
      refine z_iload X dX0_addEntry_77 rfl ?_
      refine z_iconst (v := nI 3) X (by decide) dX0_addEntry_79 ?_
      refine z_iaddN X dX0_addEntry_80 ?_
      refine z_iload X dX0_addEntry_81 rfl ?_
      refine z_iastN X (zsa_5 hS) (by omega) (by omega) dX0_addEntry_83 ?_
      refine z_aload_n X dX0_addEntry_84 rfl ?_
      refine z_dup X rfl dX0_addEntry_85 ?_
      refine z_geti X fX0_28 (zso_2 hS) rfl dX0_addEntry_86 ?_
      try simp (disch := omega) only [z_up_app, z_put_app, reduceIte, Nat.reduceEqDiff, he]
      refine z_iconst (v := nI 1) X (by decide) dX0_addEntry_89 ?_
      refine z_iaddN X dX0_addEntry_90 ?_
      refine z_puti X fX0_28 (zso_2 hS) rfl dX0_addEntry_91 ?_
      refine z_aload_n X dX0_addEntry_94 rfl ?_
      refine z_geti X fX0_28 (zso_2 hS) rfl dX0_addEntry_95 ?_
      try simp (disch := omega) only [z_up_app, z_put_app, reduceIte, Nat.reduceEqDiff, he]
      refine z_iconst (v := nI 1) X (by decide) dX0_addEntry_98 ?_
      refine z_isubN X (by omega) dX0_addEntry_99 ?_
      refine z_iret X (by decide) (by decide) rfl dX0_addEntry_100 ?_
      exact zI_e (by congr 1) rfl rfl
    · skip
      try simp (disch := omega) only [zk0, nI_leI, nI_ltI, nI_eq, zbk_notn, zbk_not, zbk_n0, zbk_0, zb_0, zb_n0, zb_not, zb_notn, Bool.not_eq_false, Bool.not_eq_true, Bool.not_eq_true', Bool.not_eq_false', decide_eq_true_eq, decide_eq_false_iff_not, Classical.not_not] at c_29
      omega

set_option maxHeartbeats 4000000 in
set_option maxRecDepth 100000 in
theorem tX0_addEntryF {l : Launch} {D : va_G} {cy : Nat → ClassId} {z0 : zRg} {g : zSh} {σ : zIn} (w a b c9 d : Int32) (hS : zS g) (he : σ 2 5 = nI 40) : z_Ct l D cy z0 MX0_addEntry [.ref (g.2.1 2), .int w, .int a, .int b, .int c9, .int d] g σ (zI (-1) g σ) := by
  refine z_ofM (by decide) (z_cr (z_ci (z_ci (z_ci (z_ci (z_ci z_c0)))))) (Nat.le_of_ble_eq_true rfl) ?_
  intro p e s m args below meth c X
  refine z_aload_n X dX0_addEntry_0 rfl ?_
  refine z_geti X fX0_28 (zso_2 hS) rfl dX0_addEntry_1 ?_
  try simp (disch := omega) only [z_up_app, z_put_app, reduceIte, Nat.reduceEqDiff, he]
  refine z_iconst (v := nI 4) X (by decide) dX0_addEntry_4 ?_
  refine z_imulN X dX0_addEntry_5 ?_
  refine z_istore X dX0_addEntry_6 (by decide) ?_
  refine z_aload_n X dX0_addEntry_8 rfl ?_
  refine z_geti X fX0_28 (zso_2 hS) rfl dX0_addEntry_9 ?_
  try simp (disch := omega) only [z_up_app, z_put_app, reduceIte, Nat.reduceEqDiff, he]
  refine z_aload_n X dX0_addEntry_12 rfl ?_
  refine z_getr2 X fX0_15 (zso_2 hS) (zsr_2_1 hS) rfl dX0_addEntry_13 ?_
  refine z_alen X (t := 0) (by decide) (zsa_4 hS) dX0_addEntry_16 ?_
  refine z_icmp_ge (tgt := 32) X dX0_addEntry_17 (by decide) (fun c_17 => ?_) (fun c_17 => ?_)
  · skip
    try simp (disch := omega) only [zk0, nI_leI, nI_ltI, nI_eq, zbk_notn, zbk_not, zbk_n0, zbk_0, zb_0, zb_n0, zb_not, zb_notn, Bool.not_eq_false, Bool.not_eq_true, Bool.not_eq_true', Bool.not_eq_false', decide_eq_true_eq, decide_eq_false_iff_not, Classical.not_not] at c_17
    refine z_iconst (v := -1) X (by decide) dX0_addEntry_32 ?_
    refine z_iret X (by decide) (by decide) rfl dX0_addEntry_33 ?_
    exact zI_e rfl rfl rfl
  · skip
    try simp (disch := omega) only [zk0, nI_leI, nI_ltI, nI_eq, zbk_notn, zbk_not, zbk_n0, zbk_0, zb_0, zb_n0, zb_not, zb_notn, Bool.not_eq_false, Bool.not_eq_true, Bool.not_eq_true', Bool.not_eq_false', decide_eq_true_eq, decide_eq_false_iff_not, Classical.not_not] at c_17
    omega

set_option maxHeartbeats 4000000 in
set_option maxRecDepth 100000 in
theorem tX2_add {l : Launch} {D : va_G} {cy : Nat → ClassId} {z0 : zRg} {g : zSh} {σ : zIn} {nd : Nat} (v : Int32) (hS : zS g) (hd : σ 11 1 = nI nd) (hd2 : nd < 24) : z_Ct l D cy z0 MX2_add [.ref (g.2.1 11), .int v] g σ (zI 1 g (z_up (z_up σ 12 nd v) 11 1 (nI (nd + 1)))) := by
  refine z_ofM (by decide) (z_cr (z_ci z_c0)) (Nat.le_of_ble_eq_true rfl) ?_
  intro p e s m args below meth c X
  refine z_aload_n X dX2_add_0 rfl ?_
  refine z_geti X fX2_15 (zso_11 hS) rfl dX2_add_1 ?_
  try simp (disch := omega) only [z_up_app, z_put_app, reduceIte, Nat.reduceEqDiff, hd]
  refine z_aload_n X dX2_add_4 rfl ?_
  refine z_getr2 X fX2_9 (zso_11 hS) (zsr_11_0 hS) rfl dX2_add_5 ?_
  refine z_alen X (t := 0) (by decide) (zsa_12 hS) dX2_add_8 ?_
  refine z_icmp_lt (tgt := 14) X dX2_add_9 (by decide) (fun c_9 => ?_) (fun c_9 => ?_)
  · skip
    try simp (disch := omega) only [zk0, nI_leI, nI_ltI, nI_eq, zbk_notn, zbk_not, zbk_n0, zbk_0, zb_0, zb_n0, zb_not, zb_notn, Bool.not_eq_false, Bool.not_eq_true, Bool.not_eq_true', Bool.not_eq_false', decide_eq_true_eq, decide_eq_false_iff_not, Classical.not_not] at c_9
    refine z_aload_n X dX2_add_14 rfl ?_
    refine z_getr2 X fX2_9 (zso_11 hS) (zsr_11_0 hS) rfl dX2_add_15 ?_
    refine z_aload_n X dX2_add_18 rfl ?_
    refine z_geti X fX2_15 (zso_11 hS) rfl dX2_add_19 ?_
    try simp (disch := omega) only [z_up_app, z_put_app, reduceIte, Nat.reduceEqDiff, hd]
    refine z_iload_n X dX2_add_22 rfl ?_
    refine z_iastN X (zsa_12 hS) (by omega) (by omega) dX2_add_23 ?_
    refine z_aload_n X dX2_add_24 rfl ?_
    refine z_dup X rfl dX2_add_25 ?_
    refine z_geti X fX2_15 (zso_11 hS) rfl dX2_add_26 ?_
    try simp (disch := omega) only [z_up_app, z_put_app, reduceIte, Nat.reduceEqDiff, hd]
    refine z_iconst (v := nI 1) X (by decide) dX2_add_29 ?_
    refine z_iaddN X dX2_add_30 ?_
    refine z_puti X fX2_15 (zso_11 hS) rfl dX2_add_31 ?_
    refine z_iconst (v := nI 1) X (by decide) dX2_add_34 ?_
    refine z_zret X (by decide) (by decide) rfl (by first | exact Or.inl rfl | exact Or.inr rfl | exact zb_01 _ | assumption) dX2_add_35 ?_
    exact zI_e rfl rfl rfl
  · skip
    try simp (disch := omega) only [zk0, nI_leI, nI_ltI, nI_eq, zbk_notn, zbk_not, zbk_n0, zbk_0, zb_0, zb_n0, zb_not, zb_notn, Bool.not_eq_false, Bool.not_eq_true, Bool.not_eq_true', Bool.not_eq_false', decide_eq_true_eq, decide_eq_false_iff_not, Classical.not_not] at c_9
    omega

set_option maxHeartbeats 4000000 in
set_option maxRecDepth 100000 in
theorem tX2_addF {l : Launch} {D : va_G} {cy : Nat → ClassId} {z0 : zRg} {g : zSh} {σ : zIn} (v : Int32) (hS : zS g) (hd : σ 11 1 = nI 24) : z_Ct l D cy z0 MX2_add [.ref (g.2.1 11), .int v] g σ (zI 0 g σ) := by
  refine z_ofM (by decide) (z_cr (z_ci z_c0)) (Nat.le_of_ble_eq_true rfl) ?_
  intro p e s m args below meth c X
  refine z_aload_n X dX2_add_0 rfl ?_
  refine z_geti X fX2_15 (zso_11 hS) rfl dX2_add_1 ?_
  try simp (disch := omega) only [z_up_app, z_put_app, reduceIte, Nat.reduceEqDiff, hd]
  refine z_aload_n X dX2_add_4 rfl ?_
  refine z_getr2 X fX2_9 (zso_11 hS) (zsr_11_0 hS) rfl dX2_add_5 ?_
  refine z_alen X (t := 0) (by decide) (zsa_12 hS) dX2_add_8 ?_
  refine z_icmp_lt (tgt := 14) X dX2_add_9 (by decide) (fun c_9 => ?_) (fun c_9 => ?_)
  · skip
    try simp (disch := omega) only [zk0, nI_leI, nI_ltI, nI_eq, zbk_notn, zbk_not, zbk_n0, zbk_0, zb_0, zb_n0, zb_not, zb_notn, Bool.not_eq_false, Bool.not_eq_true, Bool.not_eq_true', Bool.not_eq_false', decide_eq_true_eq, decide_eq_false_iff_not, Classical.not_not] at c_9
    omega
  · skip
    try simp (disch := omega) only [zk0, nI_leI, nI_ltI, nI_eq, zbk_notn, zbk_not, zbk_n0, zbk_0, zb_0, zb_n0, zb_not, zb_notn, Bool.not_eq_false, Bool.not_eq_true, Bool.not_eq_true', Bool.not_eq_false', decide_eq_true_eq, decide_eq_false_iff_not, Classical.not_not] at c_9
    refine z_iconst (v := nI 0) X (by decide) dX2_add_12 ?_
    refine z_zret X (by decide) (by decide) rfl (by first | exact Or.inl rfl | exact Or.inr rfl | exact zb_01 _ | assumption) dX2_add_13 ?_
    exact zI_e rfl rfl rfl

set_option maxHeartbeats 4000000 in
set_option maxRecDepth 100000 in
theorem tX6_codeFor {l : Launch} {D : va_G} {cy : Nat → ClassId} {z0 : zRg} {g : zSh} {σ : zIn} (st len : Nat) (hS : zS g) (h1 : st < 24) (h2 : 1 ≤ len) (h3 : len ≤ 4) : z_Ct l D cy z0 MX6_codeFor [.ref (g.2.1 7), .int (nI st), .int (nI len)] g σ (zI (σ 8 (st * 4 + len - 1)) g σ) := by
  refine z_ofM (by decide) (z_cr (z_ci (z_ci z_c0))) (Nat.le_of_ble_eq_true rfl) ?_
  intro p e s m args below meth c X
  refine z_iload_n X dX6_codeFor_0 rfl ?_
  refine z_iconst (v := nI 4) X (by decide) dX6_codeFor_1 ?_
  refine z_imulN X dX6_codeFor_2 ?_
  refine z_iload_n X dX6_codeFor_3 rfl ?_
  refine z_iaddN X dX6_codeFor_4 ?_
  refine z_iconst (v := nI 1) X (by decide) dX6_codeFor_5 ?_
  refine z_isubN X (by omega) dX6_codeFor_6 ?_
  refine z_istore_n X dX6_codeFor_7 (by decide) ?_
  refine z_iload_n X dX6_codeFor_8 rfl ?_
  refine z_iconst (v := nI 0) X (by decide) dX6_codeFor_9 ?_
  refine z_aload_n X dX6_codeFor_10 rfl ?_
  refine z_getr2 X fX6_15 (zso_7 hS) (zsr_7_1 hS) rfl dX6_codeFor_11 ?_
  refine z_alen X (t := 0) (by decide) (zsa_8 hS) dX6_codeFor_14 ?_
  refine z_iconst (v := nI 1) X (by decide) dX6_codeFor_15 ?_
  refine z_isub X dX6_codeFor_16 ?_
  refine z_runS X kX6_110 (tOut (nI (st * 4 + len - 1)) (by omega)) rfl rfl (Nat.le_of_ble_eq_true rfl) ⟨by decide, by decide⟩ ⟨by decide, by decide⟩ dX6_codeFor_17 ?_
  rintro _ g1 s1 ⟨rfl, h8, h9⟩
  replace h8 := h8.symm
  subst h8
  replace h9 := h9.symm
  subst h9
  rw [zin_nI (show st * 4 + len - 1 < 96 by omega) (by omega)]
  refine z_if_eq (tgt := 27) X dX6_codeFor_20 (by decide) (fun c_20 => ?_) (fun c_20 => ?_)
  · skip
    try simp (disch := omega) only [zk0, nI_leI, nI_ltI, nI_eq, zbk_notn, zbk_not, zbk_n0, zbk_0, zb_0, zb_n0, zb_not, zb_notn, Bool.not_eq_false, Bool.not_eq_true, Bool.not_eq_true', Bool.not_eq_false', decide_eq_true_eq, decide_eq_false_iff_not, Classical.not_not] at c_20
    refine z_aload_n X dX6_codeFor_27 rfl ?_
    refine z_getr2 X fX6_15 (zso_7 hS) (zsr_7_1 hS) rfl dX6_codeFor_28 ?_
    refine z_iload_n X dX6_codeFor_31 rfl ?_
    refine z_ialdN X (zsa_8 hS) (by omega) (by omega) dX6_codeFor_32 ?_
    refine z_iret X (by decide) (by decide) rfl dX6_codeFor_33 ?_
    exact zI_e rfl rfl rfl
  · exact absurd rfl c_20

set_option maxHeartbeats 4000000 in
set_option maxRecDepth 100000 in
theorem tX6_leastFrom {l : Launch} {D : va_G} {cy : Nat → ClassId} {z0 : zRg} {g : zSh} {σ : zIn} (st c9 : Nat) (hS : zS g) (h1 : st ≤ 24) (h2 : c9 ≤ 24) : z_Ct l D cy z0 MX6_leastFrom [.ref (g.2.1 7), .int (nI st), .int (nI c9)] g σ (zI (σ 9 (st * 25 + c9)) g σ) := by
  refine z_ofM (by decide) (z_cr (z_ci (z_ci z_c0))) (Nat.le_of_ble_eq_true rfl) ?_
  intro p e s m args below meth c X
  refine z_iload_n X dX6_leastFrom_0 rfl ?_
  refine z_iconst (v := nI 0) X (by decide) dX6_leastFrom_1 ?_
  refine z_bipush (v := nI 24) X (by decide) dX6_leastFrom_2 ?_
  refine z_runS X kX6_110 (tOutc 24 (nI st) (by decide)) rfl rfl (Nat.le_of_ble_eq_true rfl) ⟨by decide, by decide⟩ ⟨by decide, by decide⟩ dX6_leastFrom_4 ?_
  rintro _ g1 s1 ⟨rfl, h8, h9⟩
  replace h8 := h8.symm
  subst h8
  replace h9 := h9.symm
  subst h9
  rw [zin_nI (show st < 24 + 1 by omega) (by omega)]
  refine z_if_ne (tgt := 24) X dX6_leastFrom_7 (by decide) (fun c_7 => ?_) (fun c_7 => ?_)
  · exact absurd rfl c_7
  · skip
    try simp (disch := omega) only [zk0, nI_leI, nI_ltI, nI_eq, zbk_notn, zbk_not, zbk_n0, zbk_0, zb_0, zb_n0, zb_not, zb_notn, Bool.not_eq_false, Bool.not_eq_true, Bool.not_eq_true', Bool.not_eq_false', decide_eq_true_eq, decide_eq_false_iff_not, Classical.not_not] at c_7
    refine z_iload_n X dX6_leastFrom_10 rfl ?_
    refine z_iconst (v := nI 0) X (by decide) dX6_leastFrom_11 ?_
    refine z_bipush (v := nI 24) X (by decide) dX6_leastFrom_12 ?_
    refine z_runS X kX6_110 (tOutc 24 (nI c9) (by decide)) rfl rfl (Nat.le_of_ble_eq_true rfl) ⟨by decide, by decide⟩ ⟨by decide, by decide⟩ dX6_leastFrom_14 ?_
    rintro _ g1 s1 ⟨rfl, h8, h9⟩
    replace h8 := h8.symm
    subst h8
    replace h9 := h9.symm
    subst h9
    rw [zin_nI (show c9 < 24 + 1 by omega) (by omega)]
    refine z_if_ne (tgt := 24) X dX6_leastFrom_17 (by decide) (fun c_17 => ?_) (fun c_17 => ?_)
    · exact absurd rfl c_17
    · skip
      try simp (disch := omega) only [zk0, nI_leI, nI_ltI, nI_eq, zbk_notn, zbk_not, zbk_n0, zbk_0, zb_0, zb_n0, zb_not, zb_notn, Bool.not_eq_false, Bool.not_eq_true, Bool.not_eq_true', Bool.not_eq_false', decide_eq_true_eq, decide_eq_false_iff_not, Classical.not_not] at c_17
      refine z_iconst (v := nI 1) X (by decide) dX6_leastFrom_20 ?_
      refine z_goto (tgt := 25) X dX6_leastFrom_21 (by decide) ?_
      refine z_istore_n X dX6_leastFrom_25 (by decide) ?_
      refine z_iload_n X dX6_leastFrom_26 rfl ?_
      refine z_bipush (v := nI 25) X (by decide) dX6_leastFrom_27 ?_
      refine z_imulN X dX6_leastFrom_29 ?_
      refine z_iload_n X dX6_leastFrom_30 rfl ?_
      refine z_iaddN X dX6_leastFrom_31 ?_
      refine z_istore X dX6_leastFrom_32 (by decide) ?_
      refine z_iload_n X dX6_leastFrom_34 rfl ?_
      refine z_if_eq (tgt := 58) X dX6_leastFrom_35 (by decide) (fun c_35 => ?_) (fun c_35 => ?_)
      · first | exact absurd c_35 (by decide) | exact absurd (by decide) c_35
      · skip
        refine z_iload X dX6_leastFrom_38 rfl ?_
        refine z_aload_n X dX6_leastFrom_40 rfl ?_
        refine z_getr2 X fX6_19 (zso_7 hS) (zsr_7_2 hS) rfl dX6_leastFrom_41 ?_
        refine z_alen X (t := 0) (by decide) (zsa_9 hS) dX6_leastFrom_44 ?_
        refine z_icmp_ge (tgt := 58) X dX6_leastFrom_45 (by decide) (fun c_45 => ?_) (fun c_45 => ?_)
        · skip
          try simp (disch := omega) only [zk0, nI_leI, nI_ltI, nI_eq, zbk_notn, zbk_not, zbk_n0, zbk_0, zb_0, zb_n0, zb_not, zb_notn, Bool.not_eq_false, Bool.not_eq_true, Bool.not_eq_true', Bool.not_eq_false', decide_eq_true_eq, decide_eq_false_iff_not, Classical.not_not] at c_45
          omega
        · skip
          try simp (disch := omega) only [zk0, nI_leI, nI_ltI, nI_eq, zbk_notn, zbk_not, zbk_n0, zbk_0, zb_0, zb_n0, zb_not, zb_notn, Bool.not_eq_false, Bool.not_eq_true, Bool.not_eq_true', Bool.not_eq_false', decide_eq_true_eq, decide_eq_false_iff_not, Classical.not_not] at c_45
          refine z_aload_n X dX6_leastFrom_48 rfl ?_
          refine z_getr2 X fX6_19 (zso_7 hS) (zsr_7_2 hS) rfl dX6_leastFrom_49 ?_
          refine z_iload X dX6_leastFrom_52 rfl ?_
          refine z_ialdN X (zsa_9 hS) (by omega) (by omega) dX6_leastFrom_54 ?_
          refine z_goto (tgt := 60) X dX6_leastFrom_55 (by decide) ?_
          refine z_iret X (by decide) (by decide) rfl dX6_leastFrom_60 ?_
          exact zI_e rfl rfl rfl

set_option maxHeartbeats 4000000 in
set_option maxRecDepth 100000 in
theorem tX6_leastFromN {l : Launch} {D : va_G} {cy : Nat → ClassId} {z0 : zRg} {g : zSh} {σ : zIn} (st : Nat) (hS : zS g) (h1 : st ≤ 24) : z_Ct l D cy z0 MX6_leastFrom [.ref (g.2.1 7), .int (nI st), .int (-1)] g σ (zI 1000000000 g σ) := by
  refine z_ofM (by decide) (z_cr (z_ci (z_ci z_c0))) (Nat.le_of_ble_eq_true rfl) ?_
  intro p e s m args below meth c X
  refine z_iload_n X dX6_leastFrom_0 rfl ?_
  refine z_iconst (v := nI 0) X (by decide) dX6_leastFrom_1 ?_
  refine z_bipush (v := nI 24) X (by decide) dX6_leastFrom_2 ?_
  refine z_runS X kX6_110 (tOutc 24 (nI st) (by decide)) rfl rfl (Nat.le_of_ble_eq_true rfl) ⟨by decide, by decide⟩ ⟨by decide, by decide⟩ dX6_leastFrom_4 ?_
  rintro _ g1 s1 ⟨rfl, h8, h9⟩
  replace h8 := h8.symm
  subst h8
  replace h9 := h9.symm
  subst h9
  rw [zin_nI (show st < 24 + 1 by omega) (by omega)]
  refine z_if_ne (tgt := 24) X dX6_leastFrom_7 (by decide) (fun c_7 => ?_) (fun c_7 => ?_)
  · exact absurd rfl c_7
  · skip
    try simp (disch := omega) only [zk0, nI_leI, nI_ltI, nI_eq, zbk_notn, zbk_not, zbk_n0, zbk_0, zb_0, zb_n0, zb_not, zb_notn, Bool.not_eq_false, Bool.not_eq_true, Bool.not_eq_true', Bool.not_eq_false', decide_eq_true_eq, decide_eq_false_iff_not, Classical.not_not] at c_7
    refine z_iload_n X dX6_leastFrom_10 rfl ?_
    refine z_iconst (v := nI 0) X (by decide) dX6_leastFrom_11 ?_
    refine z_bipush (v := nI 24) X (by decide) dX6_leastFrom_12 ?_
    refine z_runS X kX6_110 (tOutc 24 (-1) (by decide)) rfl rfl (Nat.le_of_ble_eq_true rfl) ⟨by decide, by decide⟩ ⟨by decide, by decide⟩ dX6_leastFrom_14 ?_
    rintro _ g1 s1 ⟨rfl, h8, h9⟩
    replace h8 := h8.symm
    subst h8
    replace h9 := h9.symm
    subst h9
    rw [zin_m1]
    refine z_if_ne (tgt := 24) X dX6_leastFrom_17 (by decide) (fun c_17 => ?_) (fun c_17 => ?_)
    · skip
      try simp (disch := omega) only [zk0, nI_leI, nI_ltI, nI_eq, zbk_notn, zbk_not, zbk_n0, zbk_0, zb_0, zb_n0, zb_not, zb_notn, Bool.not_eq_false, Bool.not_eq_true, Bool.not_eq_true', Bool.not_eq_false', decide_eq_true_eq, decide_eq_false_iff_not, Classical.not_not] at c_17
      refine z_iconst (v := nI 0) X (by decide) dX6_leastFrom_24 ?_
      refine z_istore_n X dX6_leastFrom_25 (by decide) ?_
      refine z_iload_n X dX6_leastFrom_26 rfl ?_
      refine z_bipush (v := nI 25) X (by decide) dX6_leastFrom_27 ?_
      refine z_imulN X dX6_leastFrom_29 ?_
      refine z_iload_n X dX6_leastFrom_30 rfl ?_
      refine z_iadd X dX6_leastFrom_31 ?_
      refine z_istore X dX6_leastFrom_32 (by decide) ?_
      refine z_iload_n X dX6_leastFrom_34 rfl ?_
      refine z_if_eq (tgt := 58) X dX6_leastFrom_35 (by decide) (fun c_35 => ?_) (fun c_35 => ?_)
      · skip
        refine z_ldc X qX6_114 dX6_leastFrom_58 ?_
        refine z_iret X (by decide) (by decide) rfl dX6_leastFrom_60 ?_
        exact zI_e rfl rfl rfl
      · first | exact absurd c_35 (by decide) | exact absurd (by decide) c_35
    · exact absurd c_17 (by decide)

set_option maxHeartbeats 4000000 in
set_option maxRecDepth 100000 in
theorem tX6_setLeast {l : Launch} {D : va_G} {cy : Nat → ClassId} {z0 : zRg} {g : zSh} {σ : zIn} (st c9 : Nat) (v : Int32) (hS : zS g) (h1 : st ≤ 24) (h2 : c9 ≤ 24) : z_Ct l D cy z0 MX6_setLeast [.ref (g.2.1 7), .int (nI st), .int (nI c9), .int v] g σ (zN g (z_up σ 9 (st * 25 + c9) v)) := by
  refine z_ofM (by decide) (z_cr (z_ci (z_ci (z_ci z_c0)))) (Nat.le_of_ble_eq_true rfl) ?_
  intro p e s m args below meth c X
  refine z_iload_n X dX6_setLeast_0 rfl ?_
  refine z_bipush (v := nI 25) X (by decide) dX6_setLeast_1 ?_
  refine z_imulN X dX6_setLeast_3 ?_
  refine z_iload_n X dX6_setLeast_4 rfl ?_
  refine z_iaddN X dX6_setLeast_5 ?_
  refine z_istore X dX6_setLeast_6 (by decide) ?_
  refine z_iload X dX6_setLeast_8 rfl ?_
  refine z_iconst (v := nI 0) X (by decide) dX6_setLeast_10 ?_
  refine z_aload_n X dX6_setLeast_11 rfl ?_
  refine z_getr2 X fX6_19 (zso_7 hS) (zsr_7_2 hS) rfl dX6_setLeast_12 ?_
  refine z_alen X (t := 0) (by decide) (zsa_9 hS) dX6_setLeast_15 ?_
  refine z_iconst (v := nI 1) X (by decide) dX6_setLeast_16 ?_
  refine z_isub X dX6_setLeast_17 ?_
  refine z_runS X kX6_110 (tOut (nI (st * 25 + c9)) (by omega)) rfl rfl (Nat.le_of_ble_eq_true rfl) ⟨by decide, by decide⟩ ⟨by decide, by decide⟩ dX6_setLeast_18 ?_
  rintro _ g1 s1 ⟨rfl, h8, h9⟩
  replace h8 := h8.symm
  subst h8
  replace h9 := h9.symm
  subst h9
  rw [zin_nI (show st * 25 + c9 < 625 by omega) (by omega)]
  refine z_if_ne (tgt := 32) X dX6_setLeast_21 (by decide) (fun c_21 => ?_) (fun c_21 => ?_)
  · exact absurd rfl c_21
  · skip
    try simp (disch := omega) only [zk0, nI_leI, nI_ltI, nI_eq, zbk_notn, zbk_not, zbk_n0, zbk_0, zb_0, zb_n0, zb_not, zb_notn, Bool.not_eq_false, Bool.not_eq_true, Bool.not_eq_true', Bool.not_eq_false', decide_eq_true_eq, decide_eq_false_iff_not, Classical.not_not] at c_21
    refine z_aload_n X dX6_setLeast_24 rfl ?_
    refine z_getr2 X fX6_19 (zso_7 hS) (zsr_7_2 hS) rfl dX6_setLeast_25 ?_
    refine z_iload X dX6_setLeast_28 rfl ?_
    refine z_iload_n X dX6_setLeast_30 rfl ?_
    refine z_iastN X (zsa_9 hS) (by omega) (by omega) dX6_setLeast_31 ?_
    refine z_vret X (by decide) (by decide) rfl dX6_setLeast_32 ?_
    exact ⟨rfl, rfl, rfl⟩

set_option maxHeartbeats 4000000 in
set_option maxRecDepth 100000 in
theorem tX6_addWord {l : Launch} {D : va_G} {cy : Nat → ClassId} {z0 : zRg} {g : zSh} {σ : zIn} {n : Nat} (v : Int32) (hS : zS g) (hn : σ 7 4 = nI n) (hn2 : n < 24) : z_Ct l D cy z0 MX6_addWord [.ref (g.2.1 7), .int v] g σ (zN g (z_up (z_up σ 10 n v) 7 4 (nI (n + 1)))) := by
  refine z_ofM (by decide) (z_cr (z_ci z_c0)) (Nat.le_of_ble_eq_true rfl) ?_
  intro p e s m args below meth c X
  refine z_aload_n X dX6_addWord_0 rfl ?_
  refine z_geti X fX6_25 (zso_7 hS) rfl dX6_addWord_1 ?_
  try simp (disch := omega) only [z_up_app, z_put_app, reduceIte, Nat.reduceEqDiff, hn]
  refine z_aload_n X dX6_addWord_4 rfl ?_
  refine z_getr2 X fX6_22 (zso_7 hS) (zsr_7_3 hS) rfl dX6_addWord_5 ?_
  refine z_alen X (t := 0) (by decide) (zsa_10 hS) dX6_addWord_8 ?_
  refine z_icmp_ge (tgt := 32) X dX6_addWord_9 (by decide) (fun c_9 => ?_) (fun c_9 => ?_)
  · skip
    try simp (disch := omega) only [zk0, nI_leI, nI_ltI, nI_eq, zbk_notn, zbk_not, zbk_n0, zbk_0, zb_0, zb_n0, zb_not, zb_notn, Bool.not_eq_false, Bool.not_eq_true, Bool.not_eq_true', Bool.not_eq_false', decide_eq_true_eq, decide_eq_false_iff_not, Classical.not_not] at c_9
    omega
  · skip
    try simp (disch := omega) only [zk0, nI_leI, nI_ltI, nI_eq, zbk_notn, zbk_not, zbk_n0, zbk_0, zb_0, zb_n0, zb_not, zb_notn, Bool.not_eq_false, Bool.not_eq_true, Bool.not_eq_true', Bool.not_eq_false', decide_eq_true_eq, decide_eq_false_iff_not, Classical.not_not] at c_9
    refine z_aload_n X dX6_addWord_12 rfl ?_
    refine z_getr2 X fX6_22 (zso_7 hS) (zsr_7_3 hS) rfl dX6_addWord_13 ?_
    refine z_aload_n X dX6_addWord_16 rfl ?_
    refine z_geti X fX6_25 (zso_7 hS) rfl dX6_addWord_17 ?_
    try simp (disch := omega) only [z_up_app, z_put_app, reduceIte, Nat.reduceEqDiff, hn]
    refine z_iload_n X dX6_addWord_20 rfl ?_
    refine z_iastN X (zsa_10 hS) (by omega) (by omega) dX6_addWord_21 ?_
    refine z_aload_n X dX6_addWord_22 rfl ?_
    refine z_dup X rfl dX6_addWord_23 ?_
    refine z_geti X fX6_25 (zso_7 hS) rfl dX6_addWord_24 ?_
    try simp (disch := omega) only [z_up_app, z_put_app, reduceIte, Nat.reduceEqDiff, hn]
    refine z_iconst (v := nI 1) X (by decide) dX6_addWord_27 ?_
    refine z_iaddN X dX6_addWord_28 ?_
    refine z_puti X fX6_25 (zso_7 hS) rfl dX6_addWord_29 ?_
    refine z_vret X (by decide) (by decide) rfl dX6_addWord_32 ?_
    exact ⟨rfl, rfl, rfl⟩
