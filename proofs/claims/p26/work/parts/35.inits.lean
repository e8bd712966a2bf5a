/-! contracts: constructors of the small objects -/
theorem z_add_at {g : zSh} {i a kd n : Nat} : (z_add g i a kd n).2.1 i = a := if_pos rfl
theorem z_add_ne {g : zSh} {i a kd n j : Nat} (h : j ≠ i) : (z_add g i a kd n).2.1 j = g.2.1 j := if_neg h
theorem z_ob_add {g : zSh} {i a kd n j ci : Nat} (h : z_ob g j ci) (hi : i ∉ g.1) : z_ob (z_add g i a kd n) j ci := by
  have hne : j ≠ i := fun e => hi (e ▸ h.1)
  refine ⟨List.mem_append_left _ h.1, ?_⟩
  show va_up g.2.2.1 i kd j = ci
  unfold va_up; rw [if_neg hne]; exact h.2
theorem z_ob_gr {g : zSh} {i ci a b j : Nat} (h : z_ob g i ci) : z_ob (z_gr g a b j) i ci := h
set_option maxHeartbeats 4000000 in
set_option maxRecDepth 100000 in
theorem tX7_init {l : Launch} {D : va_G} {cy : Nat → ClassId} {z0 : zRg} {g : zSh} {σ : zIn} {i0 : Nat} (x1 x2 x3 x4 x5 : Int32) (hoi : z_ob g i0 7) : z_Ct l D cy z0 MX7_init [.ref (g.2.1 i0), .int x1, .int x2, .int x3, .int x4, .int x5] g σ (zN g (z_up (z_up (z_up (z_up (z_up σ i0 0 x1) i0 1 x2) i0 2 x3) i0 3 x4) i0 4 x5)) := by
  refine z_ofM (by decide) (z_cr (z_ci (z_ci (z_ci (z_ci (z_ci z_c0)))))) (Nat.le_of_ble_eq_true rfl) ?_
  intro p e s m args below meth c X
  refine z_aload_n X dX7_init_0 rfl ?_
  refine z_objInit X oX7_1 oi_inst oi_code (by decide) (by decide) dX7_init_1 ?_
  refine z_aload_n X dX7_init_4 rfl ?_
  refine z_iload_n X dX7_init_5 rfl ?_
  refine z_putfi X pX7_7 (hoi) rfl rfl dX7_init_6 ?_
  refine z_aload_n X dX7_init_9 rfl ?_
  refine z_iload_n X dX7_init_10 rfl ?_
  refine z_putfi X pX7_13 (hoi) rfl rfl dX7_init_11 ?_
  refine z_aload_n X dX7_init_14 rfl ?_
  refine z_iload_n X dX7_init_15 rfl ?_
  refine z_putfi X pX7_16 (hoi) rfl rfl dX7_init_16 ?_
  refine z_aload_n X dX7_init_19 rfl ?_
  refine z_iload X dX7_init_20 rfl ?_
  refine z_putfi X pX7_19 (hoi) rfl rfl dX7_init_22 ?_
  refine z_aload_n X dX7_init_25 rfl ?_
  refine z_iload X dX7_init_26 rfl ?_
  refine z_putfi X pX7_22 (hoi) rfl rfl dX7_init_28 ?_
  refine z_vret X (by decide) (by decide) rfl dX7_init_31 ?_
  exact ⟨rfl, rfl, rfl⟩

set_option maxHeartbeats 4000000 in
set_option maxRecDepth 100000 in
theorem tX1_init {l : Launch} {D : va_G} {cy : Nat → ClassId} {z0 : zRg} {g : zSh} {σ : zIn} {i0 : Nat} (x1 x2 x3 x4 : Int32) (hoi : z_ob g i0 1) : z_Ct l D cy z0 MX1_init [.ref (g.2.1 i0), .int x1, .int x2, .int x3, .int x4] g σ (zN g (z_up (z_up (z_up (z_up (z_up (z_up σ i0 0 x1) i0 1 x2) i0 2 x3) i0 3 x4) i0 4 0) i0 5 0)) := by
  refine z_ofM (by decide) (z_cr (z_ci (z_ci (z_ci (z_ci z_c0))))) (Nat.le_of_ble_eq_true rfl) ?_
  intro p e s m args below meth c X
  refine z_aload_n X dX1_init_0 rfl ?_
  refine z_objInit X oX1_1 oi_inst oi_code (by decide) (by decide) dX1_init_1 ?_
  refine z_aload_n X dX1_init_4 rfl ?_
  refine z_iload_n X dX1_init_5 rfl ?_
  refine z_putfi X pX1_7 (hoi) rfl rfl dX1_init_6 ?_
  refine z_aload_n X dX1_init_9 rfl ?_
  refine z_iload_n X dX1_init_10 rfl ?_
  refine z_putfi X pX1_13 (hoi) rfl rfl dX1_init_11 ?_
  refine z_aload_n X dX1_init_14 rfl ?_
  refine z_iload_n X dX1_init_15 rfl ?_
  refine z_putfi X pX1_16 (hoi) rfl rfl dX1_init_16 ?_
  refine z_aload_n X dX1_init_19 rfl ?_
  refine z_iload X dX1_init_20 rfl ?_
  refine z_putfi X pX1_19 (hoi) rfl rfl dX1_init_22 ?_
  refine z_aload_n X dX1_init_25 rfl ?_
  refine z_iconst (v := 0) X (by decide) dX1_init_26 ?_
  refine z_putz X fX1_22 (hoi) (by first | exact Or.inl rfl | exact Or.inr rfl | exact zb_01 _ | assumption) rfl dX1_init_27 ?_
  refine z_aload_n X dX1_init_30 rfl ?_
  refine z_iconst (v := 0) X (by decide) dX1_init_31 ?_
  refine z_puti X fX1_26 (hoi) rfl dX1_init_32 ?_
  refine z_vret X (by decide) (by decide) rfl dX1_init_35 ?_
  exact ⟨rfl, rfl, rfl⟩

set_option maxHeartbeats 4000000 in
set_option maxRecDepth 100000 in
theorem tX5_init {l : Launch} {D : va_G} {cy : Nat → ClassId} {z0 : zRg} {g : zSh} {σ : zIn} {i0 rid : Nat} (hw : z_wf g) (hoi : z_ob g i0 5) (hri : rid ∉ g.1) (hr0 : rid ≠ 0) : z_Ct l D cy z0 MX5_init [.ref (g.2.1 i0)] g σ (fun v g' σ' => v = none ∧ ∃ a, g' = z_gr (z_add g rid a 11 13) i0 0 rid ∧ σ' = (z_up (z_up (z_up (z_zero σ rid) i0 1 0) i0 2 0) i0 3 0)) := by
  refine z_ofM (by decide) (z_cr z_c0) (Nat.le_of_ble_eq_true rfl) ?_
  intro p e s m args below meth c X
  refine z_aload_n X dX5_init_0 rfl ?_
  refine z_objInit X oX5_3 oi_inst oi_code (by decide) (by decide) dX5_init_1 ?_
  refine z_aload_n X dX5_init_4 rfl ?_
  refine z_bipush (v := 13) X (by decide) dX5_init_5 ?_
  refine z_newaZ X (i := rid) (N := 13) ac_boolean hw (by assumption) (by assumption) (by decide) (by decide) (by omega) (Nat.le_of_ble_eq_true rfl) (Nat.le_of_ble_eq_true rfl) dX5_init_7 (fun a7 => ?_)
  obtain ⟨g1, hg1⟩ : ∃ g1, g1 = z_add g rid a7 11 13 := ⟨_, rfl⟩
  rw [show z_add g rid a7 11 13 = g1 from hg1.symm]
  have ea : a7 = g1.2.1 rid := by rw [hg1]; exact z_add_at.symm
  rw [ea]
  have e00 : g.2.1 i0 = g1.2.1 i0 := by rw [hg1]; exact (z_add_ne (show i0 ≠ rid from fun q => hri (q ▸ hoi.1))).symm
  rw [e00]
  have hO1 : z_ob g1 i0 5 := by rw [hg1]; exact z_ob_add hoi hri
  refine z_putfr X pX5_9 hO1 hr0 (fun _ => rfl) (fun _ => rfl) rfl rfl dX5_init_9 ?_
  refine z_aload_n X dX5_init_12 rfl ?_
  refine z_iconst (v := 0) X (by decide) dX5_init_13 ?_
  refine z_puti X fX5_15 (z_ob_gr hO1) rfl dX5_init_14 ?_
  refine z_aload_n X dX5_init_17 rfl ?_
  refine z_iconst (v := 0) X (by decide) dX5_init_18 ?_
  refine z_putz X fX5_19 (z_ob_gr hO1) (by first | exact Or.inl rfl | exact Or.inr rfl | exact zb_01 _ | assumption) rfl dX5_init_19 ?_
  refine z_aload_n X dX5_init_22 rfl ?_
  refine z_iconst (v := 0) X (by decide) dX5_init_23 ?_
  refine z_puti X fX5_23 (z_ob_gr hO1) rfl dX5_init_24 ?_
  refine z_vret X (by decide) (by decide) rfl dX5_init_27 ?_
  exact ⟨rfl, a7, by rw [← hg1], rfl⟩

theorem z_ob_at {g : zSh} {i a kd n : Nat} : z_ob (z_add g i a kd n) i kd := ⟨List.mem_append_right _ (List.mem_singleton.mpr rfl), if_pos rfl⟩
theorem z_ar_add {g : zSh} {i a kd n j t q : Nat} (h : z_ar g j t q) (hi : i ∉ g.1) : z_ar (z_add g i a kd n) j t q := by
  have hne : j ≠ i := fun e => hi (e ▸ h.1)
  refine ⟨List.mem_append_left _ h.1, ?_, ?_⟩
  · show va_up g.2.2.1 i kd j = _
    unfold va_up; rw [if_neg hne]; exact h.2.1
  · show va_up g.2.2.2.1 i n j = _
    unfold va_up; rw [if_neg hne]; exact h.2.2
theorem z_zero_app {σ : zIn} {i i' k' : Nat} : z_zero σ i i' k' = if i' = i then 0 else σ i' k' := rfl
set_option maxHeartbeats 4000000 in
set_option maxRecDepth 100000 in
theorem tX4_addCable {l : Launch} {D : va_G} {cy : Nat → ClassId} {z0 : zRg} {g : zSh} {σ : zIn} {nc : Nat} (x1 x2 x3 x4 : Int32) (hS : zS g) (hK : zC g nc) (hnc : σ 13 5 = nI nc) (hn12 : nc < 12) (hw : z_wf g) (hni : 120 + nc ∉ g.1) : z_Ct l D cy z0 MX4_addCable [.ref (g.2.1 13), .int x1, .int x2, .int x3, .int x4] g σ (fun v g' σ' => v = some (.int (nI nc)) ∧ ∃ a, g' = z_gr (z_add g (120 + nc) a 1 0) 15 nc (120 + nc) ∧ σ' = z_up (z_up (z_up (z_up (z_up (z_up (z_up (z_zero σ (120 + nc)) (120 + nc) 0 x1) (120 + nc) 1 x2) (120 + nc) 2 x3) (120 + nc) 3 x4) (120 + nc) 4 0) (120 + nc) 5 0) 13 5 (nI (nc + 1))) := by
  have hne : ¬ 13 = 120 + nc := by omega
  have hv : (z_up (z_up (z_up (z_up (z_up (z_up (z_zero σ (120 + nc)) (120 + nc) 0 x1) (120 + nc) 1 x2) (120 + nc) 2 x3) (120 + nc) 3 x4) (120 + nc) 4 0) (120 + nc) 5 0) 13 5 = nI nc := by rw [z_up_ne hne, z_up_ne hne, z_up_ne hne, z_up_ne hne, z_up_ne hne, z_up_ne hne, z_zero_app, if_neg hne]; exact hnc
  refine z_ofM (by decide) (z_cr (z_ci (z_ci (z_ci (z_ci z_c0))))) (Nat.le_of_ble_eq_true rfl) ?_
  intro p e s m args below meth c X
  refine z_aload_n X dX4_addCable_0 rfl ?_
  refine z_geti X fX4_34 (zso_13 hS) rfl dX4_addCable_1 ?_
  rw [hnc]
  refine z_aload_n X dX4_addCable_4 rfl ?_
  refine z_getr2 X fX4_19 (zso_13 hS) (zsr_13_1 hS) rfl dX4_addCable_5 ?_
  refine z_alen X (t := 3) (by decide) (zsa_15 hS) dX4_addCable_8 ?_
  refine z_icmp_lt (tgt := 14) X dX4_addCable_9 (by decide) (fun c_9 => ?_) (fun c_9 => ?_)
  · skip
    try simp (disch := omega) only [zk0, nI_leI, nI_ltI, nI_eq, zbk_notn, zbk_not, zbk_n0, zbk_0, zb_0, zb_n0, zb_not, zb_notn, Bool.not_eq_false, Bool.not_eq_true, Bool.not_eq_true', Bool.not_eq_false', decide_eq_true_eq, decide_eq_false_iff_not, Classical.not_not] at c_9
    refine z_aload_n X dX4_addCable_14 rfl ?_
    refine z_getr2 X fX4_19 (zso_13 hS) (zsr_13_1 hS) rfl dX4_addCable_15 ?_
    refine z_aload_n X dX4_addCable_18 rfl ?_
    refine z_geti X fX4_34 (zso_13 hS) rfl dX4_addCable_19 ?_
    rw [hnc]
    refine z_new X (i := (120 + nc)) nX4_17 hw (by assumption) (by omega) (Nat.le_of_ble_eq_true rfl) (Nat.le_of_ble_eq_true rfl) dX4_addCable_22 (fun a22 => ?_)
    obtain ⟨gN, hgN⟩ : ∃ g1, g1 = z_add g (120 + nc) a22 1 0 := ⟨_, rfl⟩
    rw [show z_add g (120 + nc) a22 1 0 = gN from hgN.symm]
    have ea : a22 = gN.2.1 ((120 + nc)) := by rw [hgN]; exact z_add_at.symm
    rw [ea]
    have e00 : g.2.1 13 = gN.2.1 13 := by rw [hgN]; exact (z_add_ne (by omega)).symm
    rw [e00]
    have e01 : g.2.1 15 = gN.2.1 15 := by rw [hgN]; exact (z_add_ne (by omega)).symm
    rw [e01]
    have hNew : z_ob gN ((120 + nc)) 1 := by rw [hgN]; exact z_ob_at
    have hA : z_ar gN 15 3 12 := by rw [hgN]; exact z_ar_add (zsa_15 hS) hni
    have hO1 : z_ob gN 13 4 := by rw [hgN]; exact z_ob_add (zso_13 hS) hni
    refine z_dup X rfl dX4_addCable_25 ?_
    refine z_iload_n X dX4_addCable_26 rfl ?_
    refine z_iload_n X dX4_addCable_27 rfl ?_
    refine z_iload_n X dX4_addCable_28 rfl ?_
    refine z_iload X dX4_addCable_29 rfl ?_
    refine z_runI X kX4_45 (tX1_init x1 x2 x3 x4 hNew) rfl rfl (Nat.le_of_ble_eq_true rfl) ⟨by decide, by decide⟩ ⟨by decide, by decide⟩ dX4_addCable_31 ?_
    rintro _ g1 s1 ⟨rfl, h8, h9⟩
    replace h8 := h8.symm
    subst h8
    replace h9 := h9.symm
    subst h9
    refine z_aast X (t := 3) (ci := 1) (by decide) rfl (by decide) rfl hA (by first | assumption | exact vp_in_nI (by omega) (by omega) | exact z_vin (by omega) (by omega)) hNew (by omega) dX4_addCable_34 ?_
    rw [nI_clamp (by omega)]
    refine z_aload_n X dX4_addCable_35 rfl ?_
    refine z_dup X rfl dX4_addCable_36 ?_
    refine z_geti X fX4_34 (z_ob_gr hO1) rfl dX4_addCable_37 ?_
    rw [hv]
    refine z_iconst (v := nI 1) X (by decide) dX4_addCable_40 ?_
    refine z_iaddN X dX4_addCable_41 ?_
    refine z_puti X fX4_34 (z_ob_gr hO1) rfl dX4_addCable_42 ?_
    refine z_aload_n X dX4_addCable_45 rfl ?_
    refine z_geti X fX4_34 (z_ob_gr hO1) rfl dX4_addCable_46 ?_
    rw [z_up_app, if_pos rfl, if_pos rfl]
    refine z_iconst (v := nI 1) X (by decide) dX4_addCable_49 ?_
    refine z_isubN X (by omega) dX4_addCable_50 ?_
    refine z_iret X (by decide) (by decide) rfl dX4_addCable_51 ?_
    exact ⟨rfl, a22, by rw [← hgN], rfl⟩
  · skip
    try simp (disch := omega) only [zk0, nI_leI, nI_ltI, nI_eq, zbk_notn, zbk_not, zbk_n0, zbk_0, zb_0, zb_n0, zb_not, zb_notn, Bool.not_eq_false, Bool.not_eq_true, Bool.not_eq_true', Bool.not_eq_false', decide_eq_true_eq, decide_eq_false_iff_not, Classical.not_not] at c_9
    exfalso; omega

theorem z_wf_add {g : zSh} {i a kd n : Nat} (h : z_wf g) : z_wf (z_add g i a kd n) := by
  intro j hj k
  show (if j = i then 0 else g.2.2.2.2 j k) = 0 ∨ (if j = i then 0 else g.2.2.2.2 j k) ∈ g.1 ++ [i]
  by_cases e : j = i
  · rw [if_pos e]; exact Or.inl rfl
  · rw [if_neg e]
    rcases List.mem_append.mp hj with q | q
    · rcases h j q k with z | z
      · exact Or.inl z
      · exact Or.inr (List.mem_append_left _ z)
    · exact absurd (List.mem_singleton.mp q) e
set_option maxHeartbeats 4000000 in
set_option maxRecDepth 100000 in
theorem tX4_addOffice {l : Launch} {D : va_G} {cy : Nat → ClassId} {z0 : zRg} {g : zSh} {σ : zIn} {no : Nat} (hS : zS g) (hO : zO g no) (hno : σ 13 4 = nI no) (hn8 : no < 8) (hw : z_wf g) (hni : 100 + no ∉ g.1) (hri : 110 + no ∉ g.1) : z_Ct l D cy z0 MX4_addOffice [.ref (g.2.1 13)] g σ (fun v g' σ' => v = some (.int (nI no)) ∧ ∃ a b, g' = z_gr (z_gr (z_add (z_add g (100 + no) a 5 0) (110 + no) b 11 13) (100 + no) 0 (110 + no)) 14 no (100 + no) ∧ σ' = z_up (z_up (z_up (z_up (z_zero (z_zero σ (100 + no)) (110 + no)) (100 + no) 1 0) (100 + no) 2 0) (100 + no) 3 0) 13 4 (nI (no + 1))) := by
  have hne : ¬ 13 = 100 + no := by omega
  have hne2 : ¬ 13 = 110 + no := by omega
  have hv : (z_up (z_up (z_up (z_zero (z_zero σ (100 + no)) (110 + no)) (100 + no) 1 0) (100 + no) 2 0) (100 + no) 3 0) 13 4 = nI no := by rw [z_up_ne hne, z_up_ne hne, z_up_ne hne, z_zero_app, if_neg hne2, z_zero_app, if_neg hne]; exact hno
  refine z_ofM (by decide) (z_cr z_c0) (Nat.le_of_ble_eq_true rfl) ?_
  intro p e s m args below meth c X
  refine z_aload_n X dX4_addOffice_0 rfl ?_
  refine z_geti X fX4_30 (zso_13 hS) rfl dX4_addOffice_1 ?_
  rw [hno]
  refine z_aload_n X dX4_addOffice_4 rfl ?_
  refine z_getr2 X fX4_11 (zso_13 hS) (zsr_13_0 hS) rfl dX4_addOffice_5 ?_
  refine z_alen X (t := 5) (by decide) (zsa_14 hS) dX4_addOffice_8 ?_
  refine z_icmp_lt (tgt := 14) X dX4_addOffice_9 (by decide) (fun c_9 => ?_) (fun c_9 => ?_)
  · skip
    try simp (disch := omega) only [zk0, nI_leI, nI_ltI, nI_eq, zbk_notn, zbk_not, zbk_n0, zbk_0, zb_0, zb_n0, zb_not, zb_notn, Bool.not_eq_false, Bool.not_eq_true, Bool.not_eq_true', Bool.not_eq_false', decide_eq_true_eq, decide_eq_false_iff_not, Classical.not_not] at c_9
    refine z_aload_n X dX4_addOffice_14 rfl ?_
    refine z_getr2 X fX4_11 (zso_13 hS) (zsr_13_0 hS) rfl dX4_addOffice_15 ?_
    refine z_aload_n X dX4_addOffice_18 rfl ?_
    refine z_geti X fX4_30 (zso_13 hS) rfl dX4_addOffice_19 ?_
    rw [hno]
    refine z_new X (i := (100 + no)) nX4_9 hw (by assumption) (by omega) (Nat.le_of_ble_eq_true rfl) (Nat.le_of_ble_eq_true rfl) dX4_addOffice_22 (fun a22 => ?_)
    obtain ⟨gN, hgN⟩ : ∃ g1, g1 = z_add g (100 + no) a22 5 0 := ⟨_, rfl⟩
    rw [show z_add g (100 + no) a22 5 0 = gN from hgN.symm]
    have ea : a22 = gN.2.1 ((100 + no)) := by rw [hgN]; exact z_add_at.symm
    rw [ea]
    have e00 : g.2.1 13 = gN.2.1 13 := by rw [hgN]; exact (z_add_ne (by omega)).symm
    rw [e00]
    have e01 : g.2.1 14 = gN.2.1 14 := by rw [hgN]; exact (z_add_ne (by omega)).symm
    rw [e01]
    have hNew : z_ob gN ((100 + no)) 5 := by rw [hgN]; exact z_ob_at
    have hA : z_ar gN 14 5 8 := by rw [hgN]; exact z_ar_add (zsa_14 hS) hni
    have hO1 : z_ob gN 13 4 := by rw [hgN]; exact z_ob_add (zso_13 hS) hni
    have hri2 : 110 + no ∉ gN.1 := by
      rw [hgN]; intro q
      rcases List.mem_append.mp q with z | z
      · exact hri z
      · have := List.mem_singleton.mp z; omega
    have hwN : z_wf gN := by rw [hgN]; exact z_wf_add hw
    refine z_dup X rfl dX4_addOffice_25 ?_
    refine z_runI X kX4_40 (tX5_init hwN hNew hri2 (by omega)) rfl rfl (Nat.le_of_ble_eq_true rfl) ⟨by decide, by decide⟩ ⟨by decide, by decide⟩ dX4_addOffice_26 ?_
    rintro _ g2 s2 ⟨rfl, b9, h8, h9⟩
    subst h8
    subst h9
    have hO2 : z_ob (z_gr (z_add gN (110 + no) b9 11 13) (100 + no) 0 (110 + no)) 13 4 := z_ob_gr (z_ob_add (a := b9) hO1 hri2)
    have hA2 : z_ar (z_gr (z_add gN (110 + no) b9 11 13) (100 + no) 0 (110 + no)) 14 5 8 := z_ar_add (a := b9) hA hri2
    have hN2 : z_ob (z_gr (z_add gN (110 + no) b9 11 13) (100 + no) 0 (110 + no)) (100 + no) 5 := z_ob_gr (z_ob_add (a := b9) hNew hri2)
    obtain ⟨gM, hgM⟩ : ∃ g1, g1 = z_gr (z_add gN (110 + no) b9 11 13) (100 + no) 0 (110 + no) := ⟨_, rfl⟩
    rw [show z_gr (z_add gN (110 + no) b9 11 13) (100 + no) 0 (110 + no) = gM from hgM.symm] at hO2 hA2 hN2 ⊢
    have f0 : gN.2.1 13 = gM.2.1 13 := by rw [hgM]; exact (z_add_ne (g := gN) (i := 110 + no) (a := b9) (kd := 11) (n := 13) (by omega)).symm
    have f1 : gN.2.1 14 = gM.2.1 14 := by rw [hgM]; exact (z_add_ne (g := gN) (i := 110 + no) (a := b9) (kd := 11) (n := 13) (by omega)).symm
    have f2 : gN.2.1 (100 + no) = gM.2.1 (100 + no) := by rw [hgM]; exact (z_add_ne (g := gN) (i := 110 + no) (a := b9) (kd := 11) (n := 13) (by omega)).symm
    rw [f0, f1, f2]
    refine z_aast X (t := 5) (ci := 5) (by decide) rfl (by decide) rfl hA2 (by first | assumption | exact vp_in_nI (by omega) (by omega) | exact z_vin (by omega) (by omega)) hN2 (by omega) dX4_addOffice_29 ?_
    rw [nI_clamp (by omega)]
    refine z_aload_n X dX4_addOffice_30 rfl ?_
    refine z_dup X rfl dX4_addOffice_31 ?_
    refine z_geti X fX4_30 (z_ob_gr hO2) rfl dX4_addOffice_32 ?_
    rw [hv]
    refine z_iconst (v := nI 1) X (by decide) dX4_addOffice_35 ?_
    refine z_iaddN X dX4_addOffice_36 ?_
    refine z_puti X fX4_30 (z_ob_gr hO2) rfl dX4_addOffice_37 ?_
    refine z_aload_n X dX4_addOffice_40 rfl ?_
    refine z_geti X fX4_30 (z_ob_gr hO2) rfl dX4_addOffice_41 ?_
    rw [z_up_app, if_pos rfl, if_pos rfl]
    refine z_iconst (v := nI 1) X (by decide) dX4_addOffice_44 ?_
    refine z_isubN X (by omega) dX4_addOffice_45 ?_
    refine z_iret X (by decide) (by decide) rfl dX4_addOffice_46 ?_
    exact ⟨rfl, a22, b9, by rw [hgM, hgN], rfl⟩
  · skip
    try simp (disch := omega) only [zk0, nI_leI, nI_ltI, nI_eq, zbk_notn, zbk_not, zbk_n0, zbk_0, zb_0, zb_n0, zb_not, zb_notn, Bool.not_eq_false, Bool.not_eq_true, Bool.not_eq_true', Bool.not_eq_false', decide_eq_true_eq, decide_eq_false_iff_not, Classical.not_not] at c_9
    exfalso; omega
