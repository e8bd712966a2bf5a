/-! contracts: constructors of the small objects -/
theorem z_add_at {g : zSh} {i a kd n : Nat} : (z_add g i a kd n).2.1 i = a := if_pos rfl
theorem z_add_ne {g : zSh} {i a kd n j : Nat} (h : j ≠ i) : (z_add g i a kd n).2.1 j = g.2.1 j := if_neg h
theorem z_ob_add {g : zSh} {i a kd n j ci : Nat} (h : z_ob g j ci) (hi : i ∉ g.1) : z_ob (z_add g i a kd n) j ci := by
  have hne : j ≠ i := fun e => hi (e ▸ h.1)
  refine ⟨List.mem_append_left _ h.1, ?_⟩
  show va_up g.2.2.1 i kd j = ci
  unfold va_up; rw [if_neg hne]; exact h.2
theorem z_ob_gr {g : zSh} {i ci a b j : Nat} (h : z_ob g i ci) : z_ob (z_gr g a b j) i ci := h
set_option maxHeartbeats 4000000 in
set_option maxRecDepth 100000 in
theorem tX7_init {l : Launch} {D : va_G} {cy : Nat → ClassId} {z0 : Nat} {g : zSh} {σ : zIn} {i0 : Nat} (x1 x2 x3 x4 x5 : Int32) (hoi : z_ob g i0 7) : z_Ct l D cy z0 MX7_init [.ref (g.2.1 i0), .int x1, .int x2, .int x3, .int x4, .int x5] g σ (zN g (z_up (z_up (z_up (z_up (z_up σ i0 0 x1) i0 1 x2) i0 2 x3) i0 3 x4) i0 4 x5)) := by
  refine z_ofM (by decide) (z_cr (z_ci (z_ci (z_ci (z_ci (z_ci z_c0)))))) (Nat.le_of_ble_eq_true rfl) ?_
  intro p e s m args below meth c X
  refine z_aload_n X dX7_init_0 rfl ?_
  refine z_objInit X oX7_1 oi_inst oi_code (by decide) (by decide) dX7_init_1 ?_
  refine z_aload_n X dX7_init_4 rfl ?_
  refine z_iload_n X dX7_init_5 rfl ?_
  refine z_putfi X pX7_7 (hoi) rfl rfl dX7_init_6 ?_
  refine z_aload_n X dX7_init_9 rfl ?_
  refine z_iload_n X dX7_init_10 rfl ?_
  refine z_putfi X pX7_13 (hoi) rfl rfl dX7_init_11 ?_
  refine z_aload_n X dX7_init_14 rfl ?_
  refine z_iload_n X dX7_init_15 rfl ?_
  refine z_putfi X pX7_16 (hoi) rfl rfl dX7_init_16 ?_
  refine z_aload_n X dX7_init_19 rfl ?_
  refine z_iload X dX7_init_20 rfl ?_
  refine z_putfi X pX7_19 (hoi) rfl rfl dX7_init_22 ?_
  refine z_aload_n X dX7_init_25 rfl ?_
  refine z_iload X dX7_init_26 rfl ?_
  refine z_putfi X pX7_22 (hoi) rfl rfl dX7_init_28 ?_
  refine z_vret X (by decide) (by decide) rfl dX7_init_31 ?_
  exact ⟨rfl, rfl, rfl⟩

set_option maxHeartbeats 4000000 in
set_option maxRecDepth 100000 in
theorem tX1_init {l : Launch} {D : va_G} {cy : Nat → ClassId} {z0 : Nat} {g : zSh} {σ : zIn} {i0 : Nat} (x1 x2 x3 x4 : Int32) (hoi : z_ob g i0 1) : z_Ct l D cy z0 MX1_init [.ref (g.2.1 i0), .int x1, .int x2, .int x3, .int x4] g σ (zN g (z_up (z_up (z_up (z_up (z_up (z_up σ i0 0 x1) i0 1 x2) i0 2 x3) i0 3 x4) i0 4 0) i0 5 0)) := by
  refine z_ofM (by decide) (z_cr (z_ci (z_ci (z_ci (z_ci z_c0))))) (Nat.le_of_ble_eq_true rfl) ?_
  intro p e s m args below meth c X
  refine z_aload_n X dX1_init_0 rfl ?_
  refine z_objInit X oX1_1 oi_inst oi_code (by decide) (by decide) dX1_init_1 ?_
  refine z_aload_n X dX1_init_4 rfl ?_
  refine z_iload_n X dX1_init_5 rfl ?_
  refine z_putfi X pX1_7 (hoi) rfl rfl dX1_init_6 ?_
  refine z_aload_n X dX1_init_9 rfl ?_
  refine z_iload_n X dX1_init_10 rfl ?_
  refine z_putfi X pX1_13 (hoi) rfl rfl dX1_init_11 ?_
  refine z_aload_n X dX1_init_14 rfl ?_
  refine z_iload_n X dX1_init_15 rfl ?_
  refine z_putfi X pX1_16 (hoi) rfl rfl dX1_init_16 ?_
  refine z_aload_n X dX1_init_19 rfl ?_
  refine z_iload X dX1_init_20 rfl ?_
  refine z_putfi X pX1_19 (hoi) rfl rfl dX1_init_22 ?_
  refine z_aload_n X dX1_init_25 rfl ?_
  refine z_iconst (v := 0) X (by decide) dX1_init_26 ?_
  refine z_putz X fX1_22 (hoi) (by first | exact Or.inl rfl | exact Or.inr rfl | exact zb_01 _ | assumption) rfl dX1_init_27 ?_
  refine z_aload_n X dX1_init_30 rfl ?_
  refine z_iconst (v := 0) X (by decide) dX1_init_31 ?_
  refine z_puti X fX1_26 (hoi) rfl dX1_init_32 ?_
  refine z_vret X (by decide) (by decide) rfl dX1_init_35 ?_
  exact ⟨rfl, rfl, rfl⟩

set_option maxHeartbeats 4000000 in
set_option maxRecDepth 100000 in
theorem tX5_init {l : Launch} {D : va_G} {cy : Nat → ClassId} {z0 : Nat} {g : zSh} {σ : zIn} {i0 rid : Nat} (hw : z_wf g) (hoi : z_ob g i0 5) (hri : rid ∉ g.1) (hr0 : rid ≠ 0) : z_Ct l D cy z0 MX5_init [.ref (g.2.1 i0)] g σ (fun v g' σ' => v = none ∧ ∃ a, g' = z_gr (z_add g rid a 11 13) i0 0 rid ∧ σ' = (z_up (z_up (z_up (z_zero σ rid) i0 1 0) i0 2 0) i0 3 0)) := by
  refine z_ofM (by decide) (z_cr z_c0) (Nat.le_of_ble_eq_true rfl) ?_
  intro p e s m args below meth c X
  refine z_aload_n X dX5_init_0 rfl ?_
  refine z_objInit X oX5_3 oi_inst oi_code (by decide) (by decide) dX5_init_1 ?_
  refine z_aload_n X dX5_init_4 rfl ?_
  refine z_bipush (v := 13) X (by decide) dX5_init_5 ?_
  refine z_newaZ X (i := rid) (N := 13) ac_boolean hw (by assumption) (by assumption) (by decide) (by decide) (by omega) (Nat.le_of_ble_eq_true rfl) (Nat.le_of_ble_eq_true rfl) dX5_init_7 (fun a7 => ?_)
  obtain ⟨g1, hg1⟩ : ∃ g1, g1 = z_add g rid a7 11 13 := ⟨_, rfl⟩
  rw [show z_add g rid a7 11 13 = g1 from hg1.symm]
  have ea : a7 = g1.2.1 rid := by rw [hg1]; exact z_add_at.symm
  rw [ea]
  have e00 : g.2.1 i0 = g1.2.1 i0 := by rw [hg1]; exact (z_add_ne (show i0 ≠ rid from fun q => hri (q ▸ hoi.1))).symm
  rw [e00]
  have hO1 : z_ob g1 i0 5 := by rw [hg1]; exact z_ob_add hoi hri
  refine z_putfr X pX5_9 hO1 hr0 (fun _ => rfl) (fun _ => rfl) rfl rfl dX5_init_9 ?_
  refine z_aload_n X dX5_init_12 rfl ?_
  refine z_iconst (v := 0) X (by decide) dX5_init_13 ?_
  refine z_puti X fX5_15 (z_ob_gr hO1) rfl dX5_init_14 ?_
  refine z_aload_n X dX5_init_17 rfl ?_
  refine z_iconst (v := 0) X (by decide) dX5_init_18 ?_
  refine z_putz X fX5_19 (z_ob_gr hO1) (by first | exact Or.inl rfl | exact Or.inr rfl | exact zb_01 _ | assumption) rfl dX5_init_19 ?_
  refine z_aload_n X dX5_init_22 rfl ?_
  refine z_iconst (v := 0) X (by decide) dX5_init_23 ?_
  refine z_puti X fX5_23 (z_ob_gr hO1) rfl dX5_init_24 ?_
  refine z_vret X (by decide) (by decide) rfl dX5_init_27 ?_
  exact ⟨rfl, a7, by rw [← hg1], rfl⟩
