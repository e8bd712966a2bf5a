/-! contracts: carrying, moving on, accounts -/
set_option maxHeartbeats 4000000 in
set_option maxRecDepth 100000 in
theorem tX8_carryN {l : Launch} {D : va_G} {cy : Nat → ClassId} {z0 : zRg} {g : zSh} {σ : zIn} {m9 : Nat}  : z_Ct l D cy z0 MX8_carry [.ref (g.2.1 (200 + m9)), .null] g σ (zN g σ) := by
  refine z_ofM (by decide) (z_cr (z_cn z_c0)) (Nat.le_of_ble_eq_true rfl) ?_
  intro p e s m args below meth c X
  refine z_aload_nN X dX8_carry_0 rfl ?_
  refine z_ifnonnullN X dX8_carry_1 ?_
  refine z_vret X (by decide) (by decide) rfl dX8_carry_4 ?_
  exact ⟨rfl, rfl, rfl⟩

set_option maxHeartbeats 4000000 in
set_option maxRecDepth 100000 in
theorem tX8_carry {l : Launch} {D : va_G} {cy : Nat → ClassId} {z0 : zRg} {g : zSh} {σ : zIn} {m9 c9 lf rm : Nat} (hm3 : z_ob g (200 + m9) 3) (hc1 : z_ob g (120 + c9) 1) (hc12 : c9 < 12) (hlf : σ (200 + m9) 12 = nI lf) (hlf2 : lf < 2 ^ 30) (hr5 : σ (120 + c9) 5 = nI rm) (hrm2 : rm < 2 ^ 30) : z_Ct l D cy z0 MX8_carry [.ref (g.2.1 (200 + m9)), .ref (g.2.1 (120 + c9))] g σ (zN g (z_up (z_up σ (200 + m9) 12 (nI (lf - min lf rm))) (120 + c9) 5 (nI (rm - min lf rm)))) := by
  refine z_ofM (by decide) (z_cr (z_cr z_c0)) (Nat.le_of_ble_eq_true rfl) ?_
  intro p e s m args below meth c X
  refine z_aload_n X dX8_carry_0 rfl ?_
  refine z_ifnonnull (tgt := 5) X dX8_carry_1 (by decide) ?_
  refine z_aload_n X dX8_carry_5 rfl ?_
  refine z_geti X fX8_365 (hm3) rfl dX8_carry_6 ?_
  try simp (disch := omega) only [z_up_app, z_put_app, reduceIte, Nat.reduceEqDiff, hlf, hr5, if_neg (show ¬ (120 + c9 = 200 + m9) by omega)]
  refine z_aload_n X dX8_carry_9 rfl ?_
  refine z_geti X fX8_368 (hc1) rfl dX8_carry_10 ?_
  try simp (disch := omega) only [z_up_app, z_put_app, reduceIte, Nat.reduceEqDiff, hlf, hr5, if_neg (show ¬ (120 + c9 = 200 + m9) by omega)]
  refine z_runS X kX8_326 (tJ9_min_7cf53 (nI lf) (nI rm)) rfl rfl (Nat.le_of_ble_eq_true rfl) ⟨by decide, by decide⟩ ⟨by decide, by decide⟩ dX8_carry_13 ?_
  rintro _ g1 s1 ⟨rfl, h8, h9⟩
  replace h8 := h8.symm
  subst h8
  replace h9 := h9.symm
  subst h9
  rw [zmin_n (by omega) (by omega)]
  have hmi1 := Nat.min_le_left lf rm
  have hmi2 := Nat.min_le_right lf rm
  refine z_istore_n X dX8_carry_16 (by decide) ?_
  refine z_aload_n X dX8_carry_17 rfl ?_
  refine z_dup X rfl dX8_carry_18 ?_
  refine z_geti X fX8_365 (hm3) rfl dX8_carry_19 ?_
  try simp (disch := omega) only [z_up_app, z_put_app, reduceIte, Nat.reduceEqDiff, hlf, hr5, if_neg (show ¬ (120 + c9 = 200 + m9) by omega)]
  refine z_iload_n X dX8_carry_22 rfl ?_
  refine z_isubN X (by omega) dX8_carry_23 ?_
  refine z_puti X fX8_365 (hm3) rfl dX8_carry_24 ?_
  refine z_aload_n X dX8_carry_27 rfl ?_
  refine z_dup X rfl dX8_carry_28 ?_
  refine z_geti X fX8_368 (hc1) rfl dX8_carry_29 ?_
  try simp (disch := omega) only [z_up_app, z_put_app, reduceIte, Nat.reduceEqDiff, hlf, hr5, if_neg (show ¬ (120 + c9 = 200 + m9) by omega)]
  refine z_iload_n X dX8_carry_32 rfl ?_
  refine z_isubN X (by omega) dX8_carry_33 ?_
  refine z_puti X fX8_368 (hc1) rfl dX8_carry_34 ?_
  refine z_vret X (by decide) (by decide) rfl dX8_carry_37 ?_
  exact ⟨rfl, rfl, rfl⟩

set_option maxHeartbeats 4000000 in
set_option maxRecDepth 100000 in
theorem tX8_moveOnN {l : Launch} {D : va_G} {cy : Nat → ClassId} {z0 : zRg} {g : zSh} {σ : zIn} {m9 : Nat}  : z_Ct l D cy z0 MX8_moveOn [.ref (g.2.1 1), .ref (g.2.1 (200 + m9)), .null] g σ (zN g σ) := by
  refine z_ofM (by decide) (z_cr (z_cr (z_cn z_c0))) (Nat.le_of_ble_eq_true rfl) ?_
  intro p e s m args below meth c X
  refine z_aload_nN X dX8_moveOn_0 rfl ?_
  refine z_ifnullN (tgt := 11) X dX8_moveOn_1 (by decide) ?_
  refine z_vret X (by decide) (by decide) rfl dX8_moveOn_11 ?_
  exact ⟨rfl, rfl, rfl⟩

set_option maxHeartbeats 4000000 in
set_option maxRecDepth 100000 in
theorem tX8_moveOn {l : Launch} {D : va_G} {cy : Nat → ClassId} {z0 : zRg} {g : zSh} {σ : zIn} {no nm m9 lg c9 lf oe : Nat} {ia : Int32} {hc fb : Bool} (hS : zS g) (hO : zO g no) (hno : σ 13 4 = nI no) (hG : zG g nm) (hm : m9 < nm) (hc1 : z_ob g (120 + c9) 1) (hc12 : c9 < 12) (hlf : σ (200 + m9) 12 = nI lf) (hlf2 : lf < 2 ^ 30) (hia : σ (200 + m9) 10 = ia) (hoe : (if ia = σ (120 + c9) 0 then σ (120 + c9) 1 else σ (120 + c9) 0) = nI oe) (hoe2 : oe < no) (hhc : σ (200 + m9) 5 = zb hc) (hfb : σ (100 + oe) 2 = zb fb) (hlg : σ (200 + m9) 11 = nI lg) (hlg2 : lg ≤ 99) (hrl : g.2.2.2.1 (500 + m9) ≤ 8) : z_Ct l D cy z0 MX8_moveOn [.ref (g.2.1 1), .ref (g.2.1 (200 + m9)), .ref (g.2.1 (120 + c9))] g σ (zN g (if lf = 0 then zcome g (z_up σ (200 + m9) 11 (nI (lg + 1))) m9 oe hc fb (lg + 1) else σ)) := by
  have hM := hG.2.1 m9 hm
  have hle := hO.1
  have hle2 := hG.1
  refine z_ofM (by decide) (z_cr (z_cr (z_cr z_c0))) (Nat.le_of_ble_eq_true rfl) ?_
  intro p e s m args below meth c X
  refine z_aload_n X dX8_moveOn_0 rfl ?_
  refine z_ifnull X dX8_moveOn_1 ?_
  refine z_aload_n X dX8_moveOn_4 rfl ?_
  refine z_geti X fX8_365 (hM.1) rfl dX8_moveOn_5 ?_
  try simp (disch := omega) only [z_up_app, z_put_app, reduceIte, Nat.reduceEqDiff, hlf, hlg, hia]
  refine z_if_le (tgt := 12) X dX8_moveOn_8 (by decide) (fun c_8 => ?_) (fun c_8 => ?_)
  · skip
    try simp (disch := omega) only [zk0, nI_leI, nI_ltI, nI_eq, zbk_notn, zbk_not, zbk_n0, zbk_0, zb_0, zb_n0, zb_not, zb_notn, Bool.not_eq_false, Bool.not_eq_true, Bool.not_eq_true', Bool.not_eq_false', decide_eq_true_eq, decide_eq_false_iff_not, Classical.not_not] at c_8
    refine z_aload_n X dX8_moveOn_12 rfl ?_
    refine z_dup X rfl dX8_moveOn_13 ?_
    refine z_geti X fX8_371 (hM.1) rfl dX8_moveOn_14 ?_
    try simp (disch := omega) only [z_up_app, z_put_app, reduceIte, Nat.reduceEqDiff, hlf, hlg, hia]
    refine z_iconst (v := nI 1) X (by decide) dX8_moveOn_17 ?_
    refine z_iaddN X dX8_moveOn_18 ?_
    refine z_puti X fX8_371 (hM.1) rfl dX8_moveOn_19 ?_
    refine z_aload_n X dX8_moveOn_22 rfl ?_
    refine z_aload_n X dX8_moveOn_23 rfl ?_
    refine z_aload_n X dX8_moveOn_24 rfl ?_
    refine z_aload_n X dX8_moveOn_25 rfl ?_
    refine z_geti X fX8_284 (hM.1) rfl dX8_moveOn_26 ?_
    try simp (disch := omega) only [z_up_app, z_put_app, reduceIte, Nat.reduceEqDiff, hlf, hlg, hia]
    refine z_runV X kX8_374 (tX1_otherEnd ia hc1) (hc1) rfl rfl (Nat.le_of_ble_eq_true rfl) ⟨by decide, by decide⟩ ⟨by decide, by decide⟩ dX8_moveOn_29 ?_
    rintro _ g1 s1 ⟨rfl, h8, h9⟩
    replace h8 := h8.symm
    subst h8
    replace h9 := h9.symm
    subst h9
    simp only [z_up_ne (show ¬ (120 + c9 = 200 + m9) by omega)]
    rw [hoe]
    refine z_runV X kX8_223 (tX8_comeTo oe hS hO (by rw [z_up_ne (by omega)]; exact hno) hG hm hoe2 (by rw [z_up_app, if_pos rfl, if_neg (by decide)]; exact hhc) (by rw [z_up_ne (by omega)]; exact hfb) (by rw [z_up_app, if_pos rfl, if_pos rfl]) (by omega) hrl) (zso_1 hS) rfl rfl (Nat.le_of_ble_eq_true rfl) ⟨by decide, by decide⟩ ⟨by decide, by decide⟩ dX8_moveOn_32 ?_
    rintro _ g1 s1 ⟨rfl, h8, h9⟩
    replace h8 := h8.symm
    subst h8
    replace h9 := h9.symm
    subst h9
    refine z_vret X (by decide) (by decide) rfl dX8_moveOn_35 ?_
    exact ⟨rfl, rfl, by rw [if_pos (by omega)]⟩
  · skip
    try simp (disch := omega) only [zk0, nI_leI, nI_ltI, nI_eq, zbk_notn, zbk_not, zbk_n0, zbk_0, zb_0, zb_n0, zb_not, zb_notn, Bool.not_eq_false, Bool.not_eq_true, Bool.not_eq_true', Bool.not_eq_false', decide_eq_true_eq, decide_eq_false_iff_not, Classical.not_not] at c_8
    refine z_vret X (by decide) (by decide) rfl dX8_moveOn_11 ?_
    exact ⟨rfl, rfl, by rw [if_neg (by omega)]⟩

/-- a sum of numbers of the machine -/
def zis (f : Nat → Int32) : Nat → Int32
  | 0 => 0
  | k + 1 => zis f k + f k
/-- the part of a message's price that a cable brings -/
def zpart (σ : zIn) (m c : Nat) : Int32 := σ (120 + c) 2 * σ (200 + m) 3 * zkt (σ (200 + m) 2)
def zF3 (σ σ' : zIn) : Prop := ∀ i k, ¬ (100 ≤ i ∧ i < 108 ∧ k = 3) → σ' i k = σ i k
theorem zF3_up {a σ : zIn} {o : Nat} {v : Int32} (h : zF3 a σ) (ho : o < 8) : zF3 a (z_up σ (100 + o) 3 v) := by
  intro i k hn
  by_cases e : i = 100 + o
  · subst e
    have hk : k ≠ 3 := fun q => hn ⟨by omega, by omega, q⟩
    simp only [z_up_app, reduceIte, if_neg hk]; exact h _ k hn
  · rw [z_up_ne e]; exact h i k hn
def zgot (σ : zIn) (ad ro : Nat → Nat) (m o : Nat) (n : Nat) : Int32 := zis (fun k => if ad (ro k) = o then zpart σ m (ro k) else 0) n
theorem zgot_y {σ : zIn} {ad ro : Nat → Nat} {m n : Nat} : zgot σ ad ro m (ad (ro n)) (n + 1) = zgot σ ad ro m (ad (ro n)) n + zpart σ m (ro n) := by
  show _ + (if _ then _ else _) = _
  rw [if_pos rfl]; rfl
theorem zgot_n {σ : zIn} {ad ro : Nat → Nat} {m o n : Nat} (h : ¬ ad (ro n) = o) : zgot σ ad ro m o (n + 1) = zgot σ ad ro m o n := by
  show _ + (if _ then _ else _) = _
  rw [if_neg h, Int32.add_zero]; rfl
set_option maxHeartbeats 4000000 in
set_option maxRecDepth 100000 in
theorem tX8_settle {l : Launch} {D : va_G} {cy : Nat → ClassId} {z0 : zRg} {g : zSh} {σ : zIn} {no nm nc m9 fr : Nat} {ro ad : Nat → Nat} (hS : zS g) (hO : zO g no) (hno : σ 13 4 = nI no) (hG : zG g nm) (hm : m9 < nm) (hK : zC g nc) (hnc : σ 13 5 = nI nc) (hro : ∀ i, i < g.2.2.2.1 (500 + m9) → σ (500 + m9) i = nI (ro i) ∧ ro i < nc) (had : ∀ c, c < nc → σ (120 + c) 0 = nI (ad c) ∧ ad c < no) (hrl : g.2.2.2.1 (500 + m9) ≤ 8) (hfr : σ (200 + m9) 0 = nI fr) (hfr2 : fr < no) : z_Ct l D cy z0 MX8_settle [.ref (g.2.1 1), .ref (g.2.1 (200 + m9))] g σ (fun v g' σ' => v = none ∧ g' = g ∧ zF3 σ σ' ∧ ∀ o, o < no → σ' (100 + o) 3 = (if fr = o then σ (100 + o) 3 - σ (200 + m9) 4 else σ (100 + o) 3) + zgot σ ad ro m9 o (g.2.2.2.1 (500 + m9))) := by
  have hM := hG.2.1 m9 hm
  have hle := hO.1
  have hle2 := hG.1
  have hle3 := hK.1
  have hFf := hO.2.1 fr hfr2
  refine z_ofM (by decide) (z_cr (z_cr z_c0)) (Nat.le_of_ble_eq_true rfl) ?_
  intro p e s m args below meth c X
  have loop_31 : ∀ (n : Nat) (k : Nat) (v1 v2 : Option Value) (τ : zIn) (hk : k ≤ g.2.2.2.1 (500 + m9)) (hf : zF3 σ τ) (hd : ∀ o, o < no → τ (100 + o) 3 = (if fr = o then σ (100 + o) 3 - σ (200 + m9) 4 else σ (100 + o) 3) + zgot σ ad ro m9 o k) (hn : g.2.2.2.1 (500 + m9) - k < n), z_V p l e (zRm MX8_settle) s m args below meth c 6 D cy z0 0 0 (zQm MX8_settle below D cy z0 (fun v g' σ' => v = none ∧ g' = g ∧ zF3 σ σ' ∧ ∀ o, o < no → σ' (100 + o) 3 = (if fr = o then σ (100 + o) 3 - σ (200 + m9) 4 else σ (100 + o) 3) + zgot σ ad ro m9 o (g.2.2.2.1 (500 + m9))) args s) 31 [some (.ref (g.2.1 1)), some (.ref (g.2.1 (200 + m9))), some (.ref (g.2.1 (100 + fr))), some (.int (nI k)), v1, v2] [] g τ := by
    intro n
    induction n with
    | zero => intro k v1 v2 τ hk hf hd hn; exact absurd hn (Nat.not_lt_zero _)
    | succ n ih_31 =>
      intro k v1 v2 τ hk hf hd hn
      have eN : τ 13 4 = nI no := by rw [hf 13 4 (by omega)]; exact hno
      have eC : τ 13 5 = nI nc := by rw [hf 13 5 (by omega)]; exact hnc
      have em3 : τ (200 + m9) 3 = σ (200 + m9) 3 := hf _ _ (by omega)
      have em2 : τ (200 + m9) 2 = σ (200 + m9) 2 := hf _ _ (by omega)
      refine z_iload_n X dX8_settle_31 rfl ?_
      refine z_aload_n X dX8_settle_32 rfl ?_
      refine z_getr2 X fX8_340 (hM.1) (hM.2.2.2.2.1) rfl dX8_settle_33 ?_
      refine z_alen X (t := 0) (by decide) (hM.2.2.2.2.2.2.2) dX8_settle_36 ?_
      refine z_icmp_ge (tgt := 108) X dX8_settle_37 (by decide) (fun c_37 => ?_) (fun c_37 => ?_)
      · skip
        try simp (disch := omega) only [zk0, nI_leI, nI_ltI, nI_eq, zbk_notn, zbk_not, zbk_n0, zbk_0, zb_0, zb_n0, zb_not, zb_notn, Bool.not_eq_false, Bool.not_eq_true, Bool.not_eq_true', Bool.not_eq_false', decide_eq_true_eq, decide_eq_false_iff_not, Classical.not_not] at c_37
        refine z_vret X (by decide) (by decide) rfl dX8_settle_108 ?_
        have e : k = g.2.2.2.1 (500 + m9) := by omega
        subst e
        exact ⟨rfl, rfl, hf, hd⟩
      · skip
        try simp (disch := omega) only [zk0, nI_leI, nI_ltI, nI_eq, zbk_notn, zbk_not, zbk_n0, zbk_0, zb_0, zb_n0, zb_not, zb_notn, Bool.not_eq_false, Bool.not_eq_true, Bool.not_eq_true', Bool.not_eq_false', decide_eq_true_eq, decide_eq_false_iff_not, Classical.not_not] at c_37
        refine z_aload_n X dX8_settle_40 rfl ?_
        refine z_getr2 X fX8_35 (zso_1 hS) (zsr_1_3 hS) rfl dX8_settle_41 ?_
        refine z_aload_n X dX8_settle_44 rfl ?_
        refine z_getr2 X fX8_340 (hM.1) (hM.2.2.2.2.1) rfl dX8_settle_45 ?_
        refine z_iload_n X dX8_settle_48 rfl ?_
        have h49 := hro k (by omega)
        have e49 : τ (500 + m9) k = nI (ro k) := by rw [hf _ _ (by omega)]; exact h49.1
        have hC := hK.2.1 (ro k) h49.2
        have h70 := had (ro k) h49.2
        have e70 : τ (120 + ro k) 0 = nI (ad (ro k)) := by rw [hf _ _ (by omega)]; exact h70.1
        have e92 : τ (120 + ro k) 2 = σ (120 + ro k) 2 := hf _ _ (by omega)
        have hFg := hO.2.1 (ad (ro k)) h70.2
        refine z_ialdN X (hM.2.2.2.2.2.2.2) (by omega) (by omega) dX8_settle_49 ?_
        rw [e49]
        refine z_runV X kX8_152 (tX4_cableAt (ro k) hS hK eC h49.2) (zso_13 hS) rfl rfl (Nat.le_of_ble_eq_true rfl) ⟨by decide, by decide⟩ ⟨by decide, by decide⟩ dX8_settle_50 ?_
        rintro _ g1 s1 ⟨rfl, h8, h9⟩
        replace h8 := h8.symm
        subst h8
        replace h9 := h9.symm
        subst h9
        refine z_astore X dX8_settle_53 (by decide) ?_
        refine z_aload X dX8_settle_55 rfl ?_
        refine z_ifnonnull (tgt := 64) X dX8_settle_57 (by decide) ?_
        refine z_aload_n X dX8_settle_64 rfl ?_
        refine z_getr2 X fX8_35 (zso_1 hS) (zsr_1_3 hS) rfl dX8_settle_65 ?_
        refine z_aload X dX8_settle_68 rfl ?_
        refine z_geti X fX8_343 (hC.1) rfl dX8_settle_70 ?_
        try simp (disch := omega) only [z_up_app, z_put_app, reduceIte, Nat.reduceEqDiff, e70]
        refine z_runV X kX8_138 (tX4_officeAt (ad (ro k)) hS hO eN h70.2) (zso_13 hS) rfl rfl (Nat.le_of_ble_eq_true rfl) ⟨by decide, by decide⟩ ⟨by decide, by decide⟩ dX8_settle_73 ?_
        rintro _ g1 s1 ⟨rfl, h8, h9⟩
        replace h8 := h8.symm
        subst h8
        replace h9 := h9.symm
        subst h9
        refine z_astore X dX8_settle_76 (by decide) ?_
        refine z_aload X dX8_settle_78 rfl ?_
        refine z_ifnull X dX8_settle_80 ?_
        refine z_aload X dX8_settle_83 rfl ?_
        refine z_dup X rfl dX8_settle_85 ?_
        refine z_geti X fX8_319 (hFg.1) rfl dX8_settle_86 ?_
        try simp (disch := omega) only [z_up_app, z_put_app, reduceIte, Nat.reduceEqDiff, eN]
        refine z_aload_n X dX8_settle_89 rfl ?_
        refine z_aload X dX8_settle_90 rfl ?_
        refine z_geti X fX8_346 (hC.1) rfl dX8_settle_92 ?_
        try simp (disch := omega) only [z_up_app, z_put_app, reduceIte, Nat.reduceEqDiff, e92]
        refine z_runV X kX8_349 (tX3_priceAt (nm := nm) _ hM.1) (hM.1) rfl rfl (Nat.le_of_ble_eq_true rfl) ⟨by decide, by decide⟩ ⟨by decide, by decide⟩ dX8_settle_95 ?_
        rintro _ g1 s1 ⟨rfl, h8, h9⟩
        replace h8 := h8.symm
        subst h8
        replace h9 := h9.symm
        subst h9
        rw [em3, em2]
        refine z_iadd X dX8_settle_98 ?_
        refine z_puti X fX8_319 (hFg.1) rfl dX8_settle_99 ?_
        refine z_inc1 X dX8_settle_102 rfl (by decide) ?_
        refine z_goto (tgt := 31) X dX8_settle_105 (by decide) ?_
        refine ih_31 (k + 1) _ _ _ (by omega) (zF3_up hf (by omega)) (fun o ho => ?_) (by omega)
        have hh := hd o ho
        by_cases e : ad (ro k) = o
        · subst e
          rw [zgot_y, z_up_app, if_pos rfl, if_pos rfl, hh, Int32.add_assoc]; rfl
        · rw [zgot_n e, z_up_ne (by omega), hh]
  refine z_aload_n X dX8_settle_0 rfl ?_
  refine z_getr2 X fX8_35 (zso_1 hS) (zsr_1_3 hS) rfl dX8_settle_1 ?_
  refine z_aload_n X dX8_settle_4 rfl ?_
  refine z_geti X fX8_337 (hM.1) rfl dX8_settle_5 ?_
  try simp (disch := omega) only [z_up_app, z_put_app, reduceIte, Nat.reduceEqDiff, hfr, if_neg (show ¬ (200 + m9 = 100 + fr) by omega)]
  refine z_runV X kX8_138 (tX4_officeAt fr hS hO hno hfr2) (zso_13 hS) rfl rfl (Nat.le_of_ble_eq_true rfl) ⟨by decide, by decide⟩ ⟨by decide, by decide⟩ dX8_settle_8 ?_
  rintro _ g1 s1 ⟨rfl, h8, h9⟩
  replace h8 := h8.symm
  subst h8
  replace h9 := h9.symm
  subst h9
  refine z_astore_n X dX8_settle_11 (by decide) ?_
  refine z_aload_n X dX8_settle_12 rfl ?_
  refine z_ifnull X dX8_settle_13 ?_
  refine z_aload_n X dX8_settle_16 rfl ?_
  refine z_dup X rfl dX8_settle_17 ?_
  refine z_geti X fX8_319 (hFf.1) rfl dX8_settle_18 ?_
  try simp (disch := omega) only [z_up_app, z_put_app, reduceIte, Nat.reduceEqDiff, hfr, if_neg (show ¬ (200 + m9 = 100 + fr) by omega)]
  refine z_aload_n X dX8_settle_21 rfl ?_
  refine z_geti X fX8_278 (hM.1) rfl dX8_settle_22 ?_
  try simp (disch := omega) only [z_up_app, z_put_app, reduceIte, Nat.reduceEqDiff, hfr, if_neg (show ¬ (200 + m9 = 100 + fr) by omega)]
  refine z_isub X dX8_settle_25 ?_
  refine z_puti X fX8_319 (hFf.1) rfl dX8_settle_26 ?_
  refine z_iconst (v := nI 0) X (by decide) dX8_settle_29 ?_
  refine z_istore_n X dX8_settle_30 (by decide) ?_
  refine loop_31 (g.2.2.2.1 (500 + m9) - 0 + 1) 0 _ _ _ (by omega) (zF3_up (fun _ _ _ => rfl) (by omega)) (fun o ho => ?_) (by omega)
  show _ = _ + (0 : Int32)
  rw [Int32.add_zero]
  by_cases e : fr = o
  · subst e; rw [if_pos rfl, z_up_app, if_pos rfl, if_pos rfl]
  · rw [if_neg e, z_up_ne (by omega)]

def zsh1 (σ : zIn) (ad ro : Nat → Nat) (m fr o k : Nat) : Int32 := (if ad (ro k) = o then zpart σ m (ro k) else 0) - (if fr = o then zpart σ m (ro k) else 0)
def zshr (σ : zIn) (ad ro : Nat → Nat) (m fr o n : Nat) : Int32 := zis (zsh1 σ ad ro m fr o) n
set_option maxHeartbeats 4000000 in
set_option maxRecDepth 100000 in
theorem tX8_shareIn {l : Launch} {D : va_G} {cy : Nat → ClassId} {z0 : zRg} {g : zSh} {σ : zIn} {no nm nc m9 fr o9 : Nat} {ro ad : Nat → Nat} (hS : zS g) (hO : zO g no) (hno : σ 13 4 = nI no) (hG : zG g nm) (hm : m9 < nm) (hK : zC g nc) (hnc : σ 13 5 = nI nc) (hro : ∀ i, i < g.2.2.2.1 (500 + m9) → σ (500 + m9) i = nI (ro i) ∧ ro i < nc) (had : ∀ c, c < nc → σ (120 + c) 0 = nI (ad c) ∧ ad c < no) (hrl : g.2.2.2.1 (500 + m9) ≤ 8) (hfr : σ (200 + m9) 0 = nI fr) (hfr2 : fr < no) (ho9 : o9 < no) : z_Ct l D cy z0 MX8_shareIn [.ref (g.2.1 1), .ref (g.2.1 (200 + m9)), .int (nI o9)] g σ (zI (zshr σ ad ro m9 fr o9 (g.2.2.2.1 (500 + m9))) g σ) := by
  have hM := hG.2.1 m9 hm
  have hle := hO.1
  have hle2 := hG.1
  have hle3 := hK.1
  refine z_ofM (by decide) (z_cr (z_cr (z_ci z_c0))) (Nat.le_of_ble_eq_true rfl) ?_
  intro p e s m args below meth c X
  have loop_5 : ∀ (n : Nat) (k : Nat) (v1 v2 : Option Value) (hk : k ≤ g.2.2.2.1 (500 + m9)) (hn : g.2.2.2.1 (500 + m9) - k < n), z_V p l e (zRm MX8_shareIn) s m args below meth c 7 D cy z0 0 0 (zQm MX8_shareIn below D cy z0 (zI (zshr σ ad ro m9 fr o9 (g.2.2.2.1 (500 + m9))) g σ) args s) 5 [some (.ref (g.2.1 1)), some (.ref (g.2.1 (200 + m9))), some (.int (nI o9)), some (.int (zshr σ ad ro m9 fr o9 k)), some (.int (nI k)), v1, v2] [] g σ := by
    intro n
    induction n with
    | zero => intro k v1 v2 hk hn; exact absurd hn (Nat.not_lt_zero _)
    | succ n ih_5 =>
      intro k v1 v2 hk hn
      refine z_iload X dX8_shareIn_5 rfl ?_
      refine z_aload_n X dX8_shareIn_7 rfl ?_
      refine z_getr2 X fX8_340 (hM.1) (hM.2.2.2.2.1) rfl dX8_shareIn_8 ?_
      refine z_alen X (t := 0) (by decide) (hM.2.2.2.2.2.2.2) dX8_shareIn_11 ?_
      refine z_icmp_ge (tgt := 89) X dX8_shareIn_12 (by decide) (fun c_12 => ?_) (fun c_12 => ?_)
      · skip
        try simp (disch := omega) only [zk0, nI_leI, nI_ltI, nI_eq, zbk_notn, zbk_not, zbk_n0, zbk_0, zb_0, zb_n0, zb_not, zb_notn, Bool.not_eq_false, Bool.not_eq_true, Bool.not_eq_true', Bool.not_eq_false', decide_eq_true_eq, decide_eq_false_iff_not, Classical.not_not] at c_12
        refine z_iload_n X dX8_shareIn_89 rfl ?_
        refine z_iret X (by decide) (by decide) rfl dX8_shareIn_90 ?_
        have e : k = g.2.2.2.1 (500 + m9) := by omega
        subst e
        exact zI_e rfl rfl rfl
      · skip
        try simp (disch := omega) only [zk0, nI_leI, nI_ltI, nI_eq, zbk_notn, zbk_not, zbk_n0, zbk_0, zb_0, zb_n0, zb_not, zb_notn, Bool.not_eq_false, Bool.not_eq_true, Bool.not_eq_true', Bool.not_eq_false', decide_eq_true_eq, decide_eq_false_iff_not, Classical.not_not] at c_12
        refine z_aload_n X dX8_shareIn_15 rfl ?_
        refine z_getr2 X fX8_35 (zso_1 hS) (zsr_1_3 hS) rfl dX8_shareIn_16 ?_
        refine z_aload_n X dX8_shareIn_19 rfl ?_
        refine z_getr2 X fX8_340 (hM.1) (hM.2.2.2.2.1) rfl dX8_shareIn_20 ?_
        refine z_iload X dX8_shareIn_23 rfl ?_
        have h49 := hro k (by omega)
        have hC := hK.2.1 (ro k) h49.2
        have h70 := had (ro k) h49.2
        refine z_ialdN X (hM.2.2.2.2.2.2.2) (by omega) (by omega) dX8_shareIn_25 ?_
        rw [h49.1]
        refine z_runV X kX8_152 (tX4_cableAt (ro k) hS hK hnc h49.2) (zso_13 hS) rfl rfl (Nat.le_of_ble_eq_true rfl) ⟨by decide, by decide⟩ ⟨by decide, by decide⟩ dX8_shareIn_26 ?_
        rintro _ g1 s1 ⟨rfl, h8, h9⟩
        replace h8 := h8.symm
        subst h8
        replace h9 := h9.symm
        subst h9
        refine z_astore X dX8_shareIn_29 (by decide) ?_
        refine z_aload X dX8_shareIn_31 rfl ?_
        refine z_ifnonnull (tgt := 40) X dX8_shareIn_33 (by decide) ?_
        refine z_aload_n X dX8_shareIn_40 rfl ?_
        refine z_aload X dX8_shareIn_41 rfl ?_
        refine z_geti X fX8_346 (hC.1) rfl dX8_shareIn_43 ?_
        try simp (disch := omega) only [z_up_app, z_put_app, reduceIte, Nat.reduceEqDiff, hfr]
        refine z_runV X kX8_349 (tX3_priceAt (nm := nm) _ hM.1) (hM.1) rfl rfl (Nat.le_of_ble_eq_true rfl) ⟨by decide, by decide⟩ ⟨by decide, by decide⟩ dX8_shareIn_46 ?_
        rintro _ g1 s1 ⟨rfl, h8, h9⟩
        replace h8 := h8.symm
        subst h8
        replace h9 := h9.symm
        subst h9
        refine z_istore X dX8_shareIn_49 (by decide) ?_
        refine z_aload_n X dX8_shareIn_51 rfl ?_
        refine z_geti X fX8_337 (hM.1) rfl dX8_shareIn_52 ?_
        try simp (disch := omega) only [z_up_app, z_put_app, reduceIte, Nat.reduceEqDiff, hfr]
        refine z_iload_n X dX8_shareIn_55 rfl ?_
        refine z_icmp_ne (tgt := 64) X dX8_shareIn_56 (by decide) (fun c_56 => ?_) (fun c_56 => ?_)
        · skip
          try simp (disch := omega) only [zk0, nI_leI, nI_ltI, nI_eq, zbk_notn, zbk_not, zbk_n0, zbk_0, zb_0, zb_n0, zb_not, zb_notn, Bool.not_eq_false, Bool.not_eq_true, Bool.not_eq_true', Bool.not_eq_false', decide_eq_true_eq, decide_eq_false_iff_not, Classical.not_not] at c_56
          refine z_aload X dX8_shareIn_64 rfl ?_
          refine z_ifnull X dX8_shareIn_66 ?_
          refine z_aload X dX8_shareIn_69 rfl ?_
          refine z_geti X fX8_343 (hC.1) rfl dX8_shareIn_71 ?_
          try simp (disch := omega) only [z_up_app, z_put_app, reduceIte, Nat.reduceEqDiff, h70.1]
          refine z_iload_n X dX8_shareIn_74 rfl ?_
          refine z_icmp_ne (tgt := 83) X dX8_shareIn_75 (by decide) (fun c_75 => ?_) (fun c_75 => ?_)
          · skip
            try simp (disch := omega) only [zk0, nI_leI, nI_ltI, nI_eq, zbk_notn, zbk_not, zbk_n0, zbk_0, zb_0, zb_n0, zb_not, zb_notn, Bool.not_eq_false, Bool.not_eq_true, Bool.not_eq_true', Bool.not_eq_false', decide_eq_true_eq, decide_eq_false_iff_not, Classical.not_not] at c_75
            refine z_inc1 X dX8_shareIn_83 rfl (by decide) ?_
            refine z_goto (tgt := 5) X dX8_shareIn_86 (by decide) ?_
            have e2 := fun v1 v2 => ih_5 (k + 1) v1 v2 (by omega) (by omega)
            simp only [show zshr σ ad ro m9 fr o9 (k + 1) = zshr σ ad ro m9 fr o9 k + zsh1 σ ad ro m9 fr o9 k from rfl, zsh1] at e2
            rcases Nat.decEq (ad (ro k)) o9 with ea | ea <;> rcases Nat.decEq fr o9 with ef | ef
            · rw [if_neg ea, if_neg ef, Int32.sub_zero, Int32.add_zero] at e2; first | (exfalso; omega) | exact e2 _ _
            · rw [if_neg ea, if_pos ef, Int32.zero_sub, ← Int32.sub_eq_add_neg] at e2; first | (exfalso; omega) | exact e2 _ _
            · rw [if_pos ea, if_neg ef, Int32.sub_zero] at e2; first | (exfalso; omega) | exact e2 _ _
            · rw [if_pos ea, if_pos ef, Int32.sub_self, Int32.add_zero] at e2; first | (exfalso; omega) | (rw [Int32.sub_add_cancel]; exact e2 _ _)
          · skip
            try simp (disch := omega) only [zk0, nI_leI, nI_ltI, nI_eq, zbk_notn, zbk_not, zbk_n0, zbk_0, zb_0, zb_n0, zb_not, zb_notn, Bool.not_eq_false, Bool.not_eq_true, Bool.not_eq_true', Bool.not_eq_false', decide_eq_true_eq, decide_eq_false_iff_not, Classical.not_not] at c_75
            refine z_iload_n X dX8_shareIn_78 rfl ?_
            refine z_iload X dX8_shareIn_79 rfl ?_
            refine z_iadd X dX8_shareIn_81 ?_
            refine z_istore_n X dX8_shareIn_82 (by decide) ?_
            refine z_inc1 X dX8_shareIn_83 rfl (by decide) ?_
            refine z_goto (tgt := 5) X dX8_shareIn_86 (by decide) ?_
            have e2 := fun v1 v2 => ih_5 (k + 1) v1 v2 (by omega) (by omega)
            simp only [show zshr σ ad ro m9 fr o9 (k + 1) = zshr σ ad ro m9 fr o9 k + zsh1 σ ad ro m9 fr o9 k from rfl, zsh1] at e2
            rcases Nat.decEq (ad (ro k)) o9 with ea | ea <;> rcases Nat.decEq fr o9 with ef | ef
            · rw [if_neg ea, if_neg ef, Int32.sub_zero, Int32.add_zero] at e2; first | (exfalso; omega) | exact e2 _ _
            · rw [if_neg ea, if_pos ef, Int32.zero_sub, ← Int32.sub_eq_add_neg] at e2; first | (exfalso; omega) | exact e2 _ _
            · rw [if_pos ea, if_neg ef, Int32.sub_zero] at e2; first | (exfalso; omega) | exact e2 _ _
            · rw [if_pos ea, if_pos ef, Int32.sub_self, Int32.add_zero] at e2; first | (exfalso; omega) | (rw [Int32.sub_add_cancel]; exact e2 _ _)
        · skip
          try simp (disch := omega) only [zk0, nI_leI, nI_ltI, nI_eq, zbk_notn, zbk_not, zbk_n0, zbk_0, zb_0, zb_n0, zb_not, zb_notn, Bool.not_eq_false, Bool.not_eq_true, Bool.not_eq_true', Bool.not_eq_false', decide_eq_true_eq, decide_eq_false_iff_not, Classical.not_not] at c_56
          refine z_iload_n X dX8_shareIn_59 rfl ?_
          refine z_iload X dX8_shareIn_60 rfl ?_
          refine z_isub X dX8_shareIn_62 ?_
          refine z_istore_n X dX8_shareIn_63 (by decide) ?_
          refine z_aload X dX8_shareIn_64 rfl ?_
          refine z_ifnull X dX8_shareIn_66 ?_
          refine z_aload X dX8_shareIn_69 rfl ?_
          refine z_geti X fX8_343 (hC.1) rfl dX8_shareIn_71 ?_
          try simp (disch := omega) only [z_up_app, z_put_app, reduceIte, Nat.reduceEqDiff, h70.1]
          refine z_iload_n X dX8_shareIn_74 rfl ?_
          refine z_icmp_ne (tgt := 83) X dX8_shareIn_75 (by decide) (fun c_75 => ?_) (fun c_75 => ?_)
          · skip
            try simp (disch := omega) only [zk0, nI_leI, nI_ltI, nI_eq, zbk_notn, zbk_not, zbk_n0, zbk_0, zb_0, zb_n0, zb_not, zb_notn, Bool.not_eq_false, Bool.not_eq_true, Bool.not_eq_true', Bool.not_eq_false', decide_eq_true_eq, decide_eq_false_iff_not, Classical.not_not] at c_75
            refine z_inc1 X dX8_shareIn_83 rfl (by decide) ?_
            refine z_goto (tgt := 5) X dX8_shareIn_86 (by decide) ?_
            have e2 := fun v1 v2 => ih_5 (k + 1) v1 v2 (by omega) (by omega)
            simp only [show zshr σ ad ro m9 fr o9 (k + 1) = zshr σ ad ro m9 fr o9 k + zsh1 σ ad ro m9 fr o9 k from rfl, zsh1] at e2
            rcases Nat.decEq (ad (ro k)) o9 with ea | ea <;> rcases Nat.decEq fr o9 with ef | ef
            · rw [if_neg ea, if_neg ef, Int32.sub_zero, Int32.add_zero] at e2; first | (exfalso; omega) | exact e2 _ _
            · rw [if_neg ea, if_pos ef, Int32.zero_sub, ← Int32.sub_eq_add_neg] at e2; first | (exfalso; omega) | exact e2 _ _
            · rw [if_pos ea, if_neg ef, Int32.sub_zero] at e2; first | (exfalso; omega) | exact e2 _ _
            · rw [if_pos ea, if_pos ef, Int32.sub_self, Int32.add_zero] at e2; first | (exfalso; omega) | (rw [Int32.sub_add_cancel]; exact e2 _ _)
          · skip
            try simp (disch := omega) only [zk0, nI_leI, nI_ltI, nI_eq, zbk_notn, zbk_not, zbk_n0, zbk_0, zb_0, zb_n0, zb_not, zb_notn, Bool.not_eq_false, Bool.not_eq_true, Bool.not_eq_true', Bool.not_eq_false', decide_eq_true_eq, decide_eq_false_iff_not, Classical.not_not] at c_75
            refine z_iload_n X dX8_shareIn_78 rfl ?_
            refine z_iload X dX8_shareIn_79 rfl ?_
            refine z_iadd X dX8_shareIn_81 ?_
            refine z_istore_n X dX8_shareIn_82 (by decide) ?_
            refine z_inc1 X dX8_shareIn_83 rfl (by decide) ?_
            refine z_goto (tgt := 5) X dX8_shareIn_86 (by decide) ?_
            have e2 := fun v1 v2 => ih_5 (k + 1) v1 v2 (by omega) (by omega)
            simp only [show zshr σ ad ro m9 fr o9 (k + 1) = zshr σ ad ro m9 fr o9 k + zsh1 σ ad ro m9 fr o9 k from rfl, zsh1] at e2
            rcases Nat.decEq (ad (ro k)) o9 with ea | ea <;> rcases Nat.decEq fr o9 with ef | ef
            · rw [if_neg ea, if_neg ef, Int32.sub_zero, Int32.add_zero] at e2; first | (exfalso; omega) | exact e2 _ _
            · rw [if_neg ea, if_pos ef, Int32.zero_sub, ← Int32.sub_eq_add_neg] at e2; first | (exfalso; omega) | exact e2 _ _
            · rw [if_pos ea, if_neg ef, Int32.sub_zero] at e2; first | (exfalso; omega) | exact e2 _ _
            · rw [if_pos ea, if_pos ef, Int32.sub_self, Int32.add_zero] at e2; first | (exfalso; omega) | (rw [Int32.sub_add_cancel]; exact e2 _ _)
  refine z_iconst (v := nI 0) X (by decide) dX8_shareIn_0 ?_
  refine z_istore_n X dX8_shareIn_1 (by decide) ?_
  refine z_iconst (v := nI 0) X (by decide) dX8_shareIn_2 ?_
  refine z_istore X dX8_shareIn_3 (by decide) ?_
  exact loop_5 (g.2.2.2.1 (500 + m9) - 0 + 1) 0 _ _ (by omega) (by omega)
