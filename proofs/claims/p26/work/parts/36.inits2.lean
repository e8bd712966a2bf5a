/-! contracts: constructors with arrays of their own -/
theorem z_wf_gr {g : zSh} {i k j : Nat} (h : z_wf g) (hj : j ∈ g.1) : z_wf (z_gr g i k j) := by
  intro i' hi' k'
  show z_upR g.2.2.2.2 i k j i' k' = 0 ∨ z_upR g.2.2.2.2 i k j i' k' ∈ g.1
  unfold z_upR
  split
  · split
    · exact Or.inr hj
    · exact h i' hi' k'
  · exact h i' hi' k'
theorem z_ni {g : zSh} {i id a kd n x k y : Nat} (h : i ∉ g.1) (hne : i ≠ id) : i ∉ (z_gr (z_add g id a kd n) x k y).1 := by
  intro q
  rcases List.mem_append.mp q with z | z
  · exact h z
  · exact hne (List.mem_singleton.mp z)
/-- a new array of id j at place k of object i -/
def zAa (g : zSh) (i j a kd n k : Nat) : zSh := z_gr (z_add g j a kd n) i k j
set_option maxHeartbeats 4000000 in
set_option maxRecDepth 100000 in
theorem tX2_init {l : Launch} {D : va_G} {cy : Nat → ClassId} {z0 : zRg} {g : zSh} {σ : zIn}  (hw : z_wf g) (hoi : z_ob g 11 2) (hn12 : 12 ∉ g.1) : z_Ct l D cy z0 MX2_init [.ref (g.2.1 11)] g σ (fun v g' σ' => v = none ∧ ∃ a7, g' = zAa (g) 11 12 a7 10 24 0 ∧ σ' = (z_up (z_zero σ 12) 11 1 0)) := by
  refine z_ofM (by decide) (z_cr z_c0) (Nat.le_of_ble_eq_true rfl) ?_
  intro p e s m args below meth c X
  refine z_aload_n X dX2_init_0 rfl ?_
  refine z_objInit X oX2_3 oi_inst oi_code (by decide) (by decide) dX2_init_1 ?_
  refine z_aload_n X dX2_init_4 rfl ?_
  refine z_bipush (v := 24) X (by decide) dX2_init_5 ?_
  refine z_newaI X (i := 12) (N := 24) ac_int hw hn12 (by decide) (by decide) (by decide) (by omega) (Nat.le_of_ble_eq_true rfl) (Nat.le_of_ble_eq_true rfl) dX2_init_7 (fun a7 => ?_)
  obtain ⟨gN0, hgN0⟩ : ∃ g1, g1 = z_add g 12 a7 10 24 := ⟨_, rfl⟩
  rw [show z_add g 12 a7 10 24 = gN0 from hgN0.symm]
  have ea0 : a7 = gN0.2.1 12 := by rw [hgN0]; exact z_add_at.symm
  rw [ea0]
  have eo0_11 : g.2.1 11 = gN0.2.1 11 := by rw [hgN0]; exact (z_add_ne (by decide)).symm
  rw [eo0_11]
  have hO0 : z_ob gN0 11 2 := by rw [hgN0]; exact z_ob_add hoi hn12
  have hI0 : 12 ∈ gN0.1 := by rw [hgN0]; exact z_ob_at.1
  refine z_putfr X pX2_9 hO0 (by decide) (fun _ => rfl) (fun _ => rfl) rfl rfl dX2_init_9 ?_
  obtain ⟨gM0, hgM0⟩ : ∃ g1, g1 = z_gr gN0 11 0 12 := ⟨_, rfl⟩
  rw [show z_gr gN0 11 0 12 = gM0 from hgM0.symm]
  have ef0_11 : gN0.2.1 11 = gM0.2.1 11 := by rw [hgM0]; rfl
  rw [ef0_11]
  have hP0 : z_ob gM0 11 2 := by rw [hgM0]; exact z_ob_gr hO0
  have hw0 : z_wf gM0 := by rw [hgM0]; exact z_wf_gr (by rw [hgN0]; exact z_wf_add hw) hI0
  refine z_aload_n X dX2_init_12 rfl ?_
  refine z_iconst (v := 0) X (by decide) dX2_init_13 ?_
  refine z_puti X fX2_15 hP0 rfl dX2_init_14 ?_
  refine z_vret X (by decide) (by decide) rfl dX2_init_17 ?_
  exact ⟨rfl, a7, by rw [hgM0, hgN0]; rfl, rfl⟩

set_option maxHeartbeats 4000000 in
set_option maxRecDepth 100000 in
theorem tX0_init {l : Launch} {D : va_G} {cy : Nat → ClassId} {z0 : zRg} {g : zSh} {σ : zIn}  (hw : z_wf g) (hoi : z_ob g 2 0) (hn3 : 3 ∉ g.1) (hn4 : 4 ∉ g.1) (hn5 : 5 ∉ g.1) (hn6 : 6 ∉ g.1) : z_Ct l D cy z0 MX0_init [.ref (g.2.1 2)] g σ (fun v g' σ' => v = none ∧ ∃ a7 a15 a24 a32, g' = zAa (zAa (zAa (zAa (g) 2 3 a7 10 30 0) 2 4 a15 10 40 1) 2 5 a24 10 160 2) 2 6 a32 10 40 3 ∧ σ' = (z_up (z_up (z_up (z_zero (z_zero (z_zero (z_zero σ 3) 4) 5) 6) 2 4 0) 2 5 0) 2 6 0)) := by
  refine z_ofM (by decide) (z_cr z_c0) (Nat.le_of_ble_eq_true rfl) ?_
  intro p e s m args below meth c X
  refine z_aload_n X dX0_init_0 rfl ?_
  refine z_objInit X oX0_3 oi_inst oi_code (by decide) (by decide) dX0_init_1 ?_
  refine z_aload_n X dX0_init_4 rfl ?_
  refine z_bipush (v := 30) X (by decide) dX0_init_5 ?_
  refine z_newaI X (i := 3) (N := 30) ac_int hw hn3 (by decide) (by decide) (by decide) (by omega) (Nat.le_of_ble_eq_true rfl) (Nat.le_of_ble_eq_true rfl) dX0_init_7 (fun a7 => ?_)
  obtain ⟨gN0, hgN0⟩ : ∃ g1, g1 = z_add g 3 a7 10 30 := ⟨_, rfl⟩
  rw [show z_add g 3 a7 10 30 = gN0 from hgN0.symm]
  have ea0 : a7 = gN0.2.1 3 := by rw [hgN0]; exact z_add_at.symm
  rw [ea0]
  have eo0_2 : g.2.1 2 = gN0.2.1 2 := by rw [hgN0]; exact (z_add_ne (by decide)).symm
  rw [eo0_2]
  have hO0 : z_ob gN0 2 0 := by rw [hgN0]; exact z_ob_add hoi hn3
  have hI0 : 3 ∈ gN0.1 := by rw [hgN0]; exact z_ob_at.1
  refine z_putfr X pX0_9 hO0 (by decide) (fun _ => rfl) (fun _ => rfl) rfl rfl dX0_init_9 ?_
  obtain ⟨gM0, hgM0⟩ : ∃ g1, g1 = z_gr gN0 2 0 3 := ⟨_, rfl⟩
  rw [show z_gr gN0 2 0 3 = gM0 from hgM0.symm]
  have ef0_2 : gN0.2.1 2 = gM0.2.1 2 := by rw [hgM0]; rfl
  rw [ef0_2]
  have hP0 : z_ob gM0 2 0 := by rw [hgM0]; exact z_ob_gr hO0
  have hw0 : z_wf gM0 := by rw [hgM0]; exact z_wf_gr (by rw [hgN0]; exact z_wf_add hw) hI0
  have hn4_0 : 4 ∉ gM0.1 := by rw [hgM0, hgN0]; exact z_ni hn4 (by decide)
  have hn5_0 : 5 ∉ gM0.1 := by rw [hgM0, hgN0]; exact z_ni hn5 (by decide)
  have hn6_0 : 6 ∉ gM0.1 := by rw [hgM0, hgN0]; exact z_ni hn6 (by decide)
  refine z_aload_n X dX0_init_12 rfl ?_
  refine z_bipush (v := 40) X (by decide) dX0_init_13 ?_
  refine z_newaI X (i := 4) (N := 40) ac_int hw0 hn4_0 (by decide) (by decide) (by decide) (by omega) (Nat.le_of_ble_eq_true rfl) (Nat.le_of_ble_eq_true rfl) dX0_init_15 (fun a15 => ?_)
  obtain ⟨gN1, hgN1⟩ : ∃ g1, g1 = z_add gM0 4 a15 10 40 := ⟨_, rfl⟩
  rw [show z_add gM0 4 a15 10 40 = gN1 from hgN1.symm]
  have ea1 : a15 = gN1.2.1 4 := by rw [hgN1]; exact z_add_at.symm
  rw [ea1]
  have eo1_2 : gM0.2.1 2 = gN1.2.1 2 := by rw [hgN1]; exact (z_add_ne (by decide)).symm
  rw [eo1_2]
  have hO1 : z_ob gN1 2 0 := by rw [hgN1]; exact z_ob_add hP0 hn4_0
  have hI1 : 4 ∈ gN1.1 := by rw [hgN1]; exact z_ob_at.1
  refine z_putfr X pX0_15 hO1 (by decide) (fun _ => rfl) (fun _ => rfl) rfl rfl dX0_init_17 ?_
  obtain ⟨gM1, hgM1⟩ : ∃ g1, g1 = z_gr gN1 2 1 4 := ⟨_, rfl⟩
  rw [show z_gr gN1 2 1 4 = gM1 from hgM1.symm]
  have ef1_2 : gN1.2.1 2 = gM1.2.1 2 := by rw [hgM1]; rfl
  rw [ef1_2]
  have hP1 : z_ob gM1 2 0 := by rw [hgM1]; exact z_ob_gr hO1
  have hw1 : z_wf gM1 := by rw [hgM1]; exact z_wf_gr (by rw [hgN1]; exact z_wf_add hw0) hI1
  have hn5_1 : 5 ∉ gM1.1 := by rw [hgM1, hgN1]; exact z_ni hn5_0 (by decide)
  have hn6_1 : 6 ∉ gM1.1 := by rw [hgM1, hgN1]; exact z_ni hn6_0 (by decide)
  refine z_aload_n X dX0_init_20 rfl ?_
  refine z_sipush (v := 160) X (by decide) dX0_init_21 ?_
  refine z_newaI X (i := 5) (N := 160) ac_int hw1 hn5_1 (by decide) (by decide) (by decide) (by omega) (Nat.le_of_ble_eq_true rfl) (Nat.le_of_ble_eq_true rfl) dX0_init_24 (fun a24 => ?_)
  obtain ⟨gN2, hgN2⟩ : ∃ g1, g1 = z_add gM1 5 a24 10 160 := ⟨_, rfl⟩
  rw [show z_add gM1 5 a24 10 160 = gN2 from hgN2.symm]
  have ea2 : a24 = gN2.2.1 5 := by rw [hgN2]; exact z_add_at.symm
  rw [ea2]
  have eo2_2 : gM1.2.1 2 = gN2.2.1 2 := by rw [hgN2]; exact (z_add_ne (by decide)).symm
  rw [eo2_2]
  have hO2 : z_ob gN2 2 0 := by rw [hgN2]; exact z_ob_add hP1 hn5_1
  have hI2 : 5 ∈ gN2.1 := by rw [hgN2]; exact z_ob_at.1
  refine z_putfr X pX0_18 hO2 (by decide) (fun _ => rfl) (fun _ => rfl) rfl rfl dX0_init_26 ?_
  obtain ⟨gM2, hgM2⟩ : ∃ g1, g1 = z_gr gN2 2 2 5 := ⟨_, rfl⟩
  rw [show z_gr gN2 2 2 5 = gM2 from hgM2.symm]
  have ef2_2 : gN2.2.1 2 = gM2.2.1 2 := by rw [hgM2]; rfl
  rw [ef2_2]
  have hP2 : z_ob gM2 2 0 := by rw [hgM2]; exact z_ob_gr hO2
  have hw2 : z_wf gM2 := by rw [hgM2]; exact z_wf_gr (by rw [hgN2]; exact z_wf_add hw1) hI2
  have hn6_2 : 6 ∉ gM2.1 := by rw [hgM2, hgN2]; exact z_ni hn6_1 (by decide)
  refine z_aload_n X dX0_init_29 rfl ?_
  refine z_bipush (v := 40) X (by decide) dX0_init_30 ?_
  refine z_newaI X (i := 6) (N := 40) ac_int hw2 hn6_2 (by decide) (by decide) (by decide) (by omega) (Nat.le_of_ble_eq_true rfl) (Nat.le_of_ble_eq_true rfl) dX0_init_32 (fun a32 => ?_)
  obtain ⟨gN3, hgN3⟩ : ∃ g1, g1 = z_add gM2 6 a32 10 40 := ⟨_, rfl⟩
  rw [show z_add gM2 6 a32 10 40 = gN3 from hgN3.symm]
  have ea3 : a32 = gN3.2.1 6 := by rw [hgN3]; exact z_add_at.symm
  rw [ea3]
  have eo3_2 : gM2.2.1 2 = gN3.2.1 2 := by rw [hgN3]; exact (z_add_ne (by decide)).symm
  rw [eo3_2]
  have hO3 : z_ob gN3 2 0 := by rw [hgN3]; exact z_ob_add hP2 hn6_2
  have hI3 : 6 ∈ gN3.1 := by rw [hgN3]; exact z_ob_at.1
  refine z_putfr X pX0_21 hO3 (by decide) (fun _ => rfl) (fun _ => rfl) rfl rfl dX0_init_34 ?_
  obtain ⟨gM3, hgM3⟩ : ∃ g1, g1 = z_gr gN3 2 3 6 := ⟨_, rfl⟩
  rw [show z_gr gN3 2 3 6 = gM3 from hgM3.symm]
  have ef3_2 : gN3.2.1 2 = gM3.2.1 2 := by rw [hgM3]; rfl
  rw [ef3_2]
  have hP3 : z_ob gM3 2 0 := by rw [hgM3]; exact z_ob_gr hO3
  have hw3 : z_wf gM3 := by rw [hgM3]; exact z_wf_gr (by rw [hgN3]; exact z_wf_add hw2) hI3
  refine z_aload_n X dX0_init_37 rfl ?_
  refine z_iconst (v := 0) X (by decide) dX0_init_38 ?_
  refine z_puti X fX0_24 hP3 rfl dX0_init_39 ?_
  refine z_aload_n X dX0_init_42 rfl ?_
  refine z_iconst (v := 0) X (by decide) dX0_init_43 ?_
  refine z_puti X fX0_28 hP3 rfl dX0_init_44 ?_
  refine z_aload_n X dX0_init_47 rfl ?_
  refine z_iconst (v := 0) X (by decide) dX0_init_48 ?_
  refine z_puti X fX0_31 hP3 rfl dX0_init_49 ?_
  refine z_vret X (by decide) (by decide) rfl dX0_init_52 ?_
  exact ⟨rfl, a7, a15, a24, a32, by rw [hgM3, hgN3, hgM2, hgN2, hgM1, hgN1, hgM0, hgN0]; rfl, rfl⟩

set_option maxHeartbeats 4000000 in
set_option maxRecDepth 100000 in
theorem tX6_init {l : Launch} {D : va_G} {cy : Nat → ClassId} {z0 : zRg} {g : zSh} {σ : zIn}  (hw : z_wf g) (hoi : z_ob g 7 6) (hI : 2 ∈ g.1) (hn8 : 8 ∉ g.1) (hn9 : 9 ∉ g.1) (hn10 : 10 ∉ g.1) : z_Ct l D cy z0 MX6_init [.ref (g.2.1 7), .ref (g.2.1 2)] g σ (fun v g' σ' => v = none ∧ ∃ a12 a21 a29, g' = zAa (zAa (zAa (z_gr g 7 0 2) 7 8 a12 10 96 1) 7 9 a21 10 625 2) 7 10 a29 10 24 3 ∧ σ' = (z_up (z_up (z_up (z_zero (z_zero (z_zero σ 8) 9) 10) 7 4 0) 7 5 0) 7 6 0)) := by
  refine z_ofM (by decide) (z_cr (z_cr z_c0)) (Nat.le_of_ble_eq_true rfl) ?_
  intro p e s m args below meth c X
  refine z_aload_n X dX6_init_0 rfl ?_
  refine z_objInit X oX6_3 oi_inst oi_code (by decide) (by decide) dX6_init_1 ?_
  refine z_aload_n X dX6_init_4 rfl ?_
  refine z_aload_n X dX6_init_5 rfl ?_
  refine z_putfr X pX6_9 (hoi) (by decide) (fun _ => rfl) (fun _ => rfl) rfl rfl dX6_init_6 ?_
  obtain ⟨gB, hgB⟩ : ∃ g1, g1 = z_gr g 7 0 2 := ⟨_, rfl⟩
  rw [show z_gr g 7 0 2 = gB from hgB.symm]
  have eB7 : g.2.1 7 = gB.2.1 7 := by rw [hgB]; rfl
  rw [eB7]
  have eB2 : g.2.1 2 = gB.2.1 2 := by rw [hgB]; rfl
  rw [eB2]
  have hPB : z_ob gB 7 6 := by rw [hgB]; exact z_ob_gr hoi
  have hwB : z_wf gB := by rw [hgB]; exact z_wf_gr hw hI
  have hn8_B : 8 ∉ gB.1 := by rw [hgB]; exact hn8
  have hn9_B : 9 ∉ gB.1 := by rw [hgB]; exact hn9
  have hn10_B : 10 ∉ gB.1 := by rw [hgB]; exact hn10
  refine z_aload_n X dX6_init_9 rfl ?_
  refine z_bipush (v := 96) X (by decide) dX6_init_10 ?_
  refine z_newaI X (i := 8) (N := 96) ac_int hwB hn8_B (by decide) (by decide) (by decide) (by omega) (Nat.le_of_ble_eq_true rfl) (Nat.le_of_ble_eq_true rfl) dX6_init_12 (fun a12 => ?_)
  obtain ⟨gN0, hgN0⟩ : ∃ g1, g1 = z_add gB 8 a12 10 96 := ⟨_, rfl⟩
  rw [show z_add gB 8 a12 10 96 = gN0 from hgN0.symm]
  have ea0 : a12 = gN0.2.1 8 := by rw [hgN0]; exact z_add_at.symm
  rw [ea0]
  have eo0_7 : gB.2.1 7 = gN0.2.1 7 := by rw [hgN0]; exact (z_add_ne (by decide)).symm
  rw [eo0_7]
  have eo0_2 : gB.2.1 2 = gN0.2.1 2 := by rw [hgN0]; exact (z_add_ne (by decide)).symm
  rw [eo0_2]
  have hO0 : z_ob gN0 7 6 := by rw [hgN0]; exact z_ob_add hPB hn8_B
  have hI0 : 8 ∈ gN0.1 := by rw [hgN0]; exact z_ob_at.1
  refine z_putfr X pX6_15 hO0 (by decide) (fun _ => rfl) (fun _ => rfl) rfl rfl dX6_init_14 ?_
  obtain ⟨gM0, hgM0⟩ : ∃ g1, g1 = z_gr gN0 7 1 8 := ⟨_, rfl⟩
  rw [show z_gr gN0 7 1 8 = gM0 from hgM0.symm]
  have ef0_7 : gN0.2.1 7 = gM0.2.1 7 := by rw [hgM0]; rfl
  rw [ef0_7]
  have ef0_2 : gN0.2.1 2 = gM0.2.1 2 := by rw [hgM0]; rfl
  rw [ef0_2]
  have hP0 : z_ob gM0 7 6 := by rw [hgM0]; exact z_ob_gr hO0
  have hw0 : z_wf gM0 := by rw [hgM0]; exact z_wf_gr (by rw [hgN0]; exact z_wf_add hwB) hI0
  have hn9_0 : 9 ∉ gM0.1 := by rw [hgM0, hgN0]; exact z_ni hn9_B (by decide)
  have hn10_0 : 10 ∉ gM0.1 := by rw [hgM0, hgN0]; exact z_ni hn10_B (by decide)
  refine z_aload_n X dX6_init_17 rfl ?_
  refine z_sipush (v := 625) X (by decide) dX6_init_18 ?_
  refine z_newaI X (i := 9) (N := 625) ac_int hw0 hn9_0 (by decide) (by decide) (by decide) (by omega) (Nat.le_of_ble_eq_true rfl) (Nat.le_of_ble_eq_true rfl) dX6_init_21 (fun a21 => ?_)
  obtain ⟨gN1, hgN1⟩ : ∃ g1, g1 = z_add gM0 9 a21 10 625 := ⟨_, rfl⟩
  rw [show z_add gM0 9 a21 10 625 = gN1 from hgN1.symm]
  have ea1 : a21 = gN1.2.1 9 := by rw [hgN1]; exact z_add_at.symm
  rw [ea1]
  have eo1_7 : gM0.2.1 7 = gN1.2.1 7 := by rw [hgN1]; exact (z_add_ne (by decide)).symm
  rw [eo1_7]
  have eo1_2 : gM0.2.1 2 = gN1.2.1 2 := by rw [hgN1]; exact (z_add_ne (by decide)).symm
  rw [eo1_2]
  have hO1 : z_ob gN1 7 6 := by rw [hgN1]; exact z_ob_add hP0 hn9_0
  have hI1 : 9 ∈ gN1.1 := by rw [hgN1]; exact z_ob_at.1
  refine z_putfr X pX6_19 hO1 (by decide) (fun _ => rfl) (fun _ => rfl) rfl rfl dX6_init_23 ?_
  obtain ⟨gM1, hgM1⟩ : ∃ g1, g1 = z_gr gN1 7 2 9 := ⟨_, rfl⟩
  rw [show z_gr gN1 7 2 9 = gM1 from hgM1.symm]
  have ef1_7 : gN1.2.1 7 = gM1.2.1 7 := by rw [hgM1]; rfl
  rw [ef1_7]
  have ef1_2 : gN1.2.1 2 = gM1.2.1 2 := by rw [hgM1]; rfl
  rw [ef1_2]
  have hP1 : z_ob gM1 7 6 := by rw [hgM1]; exact z_ob_gr hO1
  have hw1 : z_wf gM1 := by rw [hgM1]; exact z_wf_gr (by rw [hgN1]; exact z_wf_add hw0) hI1
  have hn10_1 : 10 ∉ gM1.1 := by rw [hgM1, hgN1]; exact z_ni hn10_0 (by decide)
  refine z_aload_n X dX6_init_26 rfl ?_
  refine z_bipush (v := 24) X (by decide) dX6_init_27 ?_
  refine z_newaI X (i := 10) (N := 24) ac_int hw1 hn10_1 (by decide) (by decide) (by decide) (by omega) (Nat.le_of_ble_eq_true rfl) (Nat.le_of_ble_eq_true rfl) dX6_init_29 (fun a29 => ?_)
  obtain ⟨gN2, hgN2⟩ : ∃ g1, g1 = z_add gM1 10 a29 10 24 := ⟨_, rfl⟩
  rw [show z_add gM1 10 a29 10 24 = gN2 from hgN2.symm]
  have ea2 : a29 = gN2.2.1 10 := by rw [hgN2]; exact z_add_at.symm
  rw [ea2]
  have eo2_7 : gM1.2.1 7 = gN2.2.1 7 := by rw [hgN2]; exact (z_add_ne (by decide)).symm
  rw [eo2_7]
  have eo2_2 : gM1.2.1 2 = gN2.2.1 2 := by rw [hgN2]; exact (z_add_ne (by decide)).symm
  rw [eo2_2]
  have hO2 : z_ob gN2 7 6 := by rw [hgN2]; exact z_ob_add hP1 hn10_1
  have hI2 : 10 ∈ gN2.1 := by rw [hgN2]; exact z_ob_at.1
  refine z_putfr X pX6_22 hO2 (by decide) (fun _ => rfl) (fun _ => rfl) rfl rfl dX6_init_31 ?_
  obtain ⟨gM2, hgM2⟩ : ∃ g1, g1 = z_gr gN2 7 3 10 := ⟨_, rfl⟩
  rw [show z_gr gN2 7 3 10 = gM2 from hgM2.symm]
  have ef2_7 : gN2.2.1 7 = gM2.2.1 7 := by rw [hgM2]; rfl
  rw [ef2_7]
  have ef2_2 : gN2.2.1 2 = gM2.2.1 2 := by rw [hgM2]; rfl
  rw [ef2_2]
  have hP2 : z_ob gM2 7 6 := by rw [hgM2]; exact z_ob_gr hO2
  have hw2 : z_wf gM2 := by rw [hgM2]; exact z_wf_gr (by rw [hgN2]; exact z_wf_add hw1) hI2
  refine z_aload_n X dX6_init_34 rfl ?_
  refine z_iconst (v := 0) X (by decide) dX6_init_35 ?_
  refine z_puti X fX6_25 hP2 rfl dX6_init_36 ?_
  refine z_aload_n X dX6_init_39 rfl ?_
  refine z_iconst (v := 0) X (by decide) dX6_init_40 ?_
  refine z_puti X fX6_29 hP2 rfl dX6_init_41 ?_
  refine z_aload_n X dX6_init_44 rfl ?_
  refine z_iconst (v := 0) X (by decide) dX6_init_45 ?_
  refine z_puti X fX6_32 hP2 rfl dX6_init_46 ?_
  refine z_vret X (by decide) (by decide) rfl dX6_init_49 ?_
  exact ⟨rfl, a12, a21, a29, by rw [hgM2, hgN2, hgM1, hgN1, hgM0, hgN0, hgB]; rfl, rfl⟩

set_option maxHeartbeats 4000000 in
set_option maxRecDepth 100000 in
theorem tX4_init {l : Launch} {D : va_G} {cy : Nat → ClassId} {z0 : zRg} {g : zSh} {σ : zIn}  (hw : z_wf g) (hoi : z_ob g 13 4) (hn14 : 14 ∉ g.1) (hn15 : 15 ∉ g.1) (hn16 : 16 ∉ g.1) (hn17 : 17 ∉ g.1) : z_Ct l D cy z0 MX4_init [.ref (g.2.1 13)] g σ (fun v g' σ' => v = none ∧ ∃ a7 a16 a25 a33, g' = zAa (zAa (zAa (zAa (g) 13 14 a7 15 8 0) 13 15 a16 13 12 1) 13 16 a25 10 8 2) 13 17 a33 10 8 3 ∧ σ' = (z_up (z_up (z_up (z_zero (z_zero (z_zero (z_zero σ 14) 15) 16) 17) 13 4 0) 13 5 0) 13 6 0)) := by
  refine z_ofM (by decide) (z_cr z_c0) (Nat.le_of_ble_eq_true rfl) ?_
  intro p e s m args below meth c X
  refine z_aload_n X dX4_init_0 rfl ?_
  refine z_objInit X oX4_3 oi_inst oi_code (by decide) (by decide) dX4_init_1 ?_
  refine z_aload_n X dX4_init_4 rfl ?_
  refine z_bipush (v := 8) X (by decide) dX4_init_5 ?_
  refine z_newq X (i := 14) (N := 8) (t := 5) (by decide) rfl aX4_9 ao_Office hw hn14 (by decide) (by decide) (by decide) (by omega) (Nat.le_of_ble_eq_true rfl) (Nat.le_of_ble_eq_true rfl) dX4_init_7 (fun a7 => ?_)
  obtain ⟨gN0, hgN0⟩ : ∃ g1, g1 = z_add g 14 a7 15 8 := ⟨_, rfl⟩
  rw [show z_add g 14 a7 15 8 = gN0 from hgN0.symm]
  have ea0 : a7 = gN0.2.1 14 := by rw [hgN0]; exact z_add_at.symm
  rw [ea0]
  have eo0_13 : g.2.1 13 = gN0.2.1 13 := by rw [hgN0]; exact (z_add_ne (by decide)).symm
  rw [eo0_13]
  have hO0 : z_ob gN0 13 4 := by rw [hgN0]; exact z_ob_add hoi hn14
  have hI0 : 14 ∈ gN0.1 := by rw [hgN0]; exact z_ob_at.1
  refine z_putfr X pX4_11 hO0 (by decide) (fun _ => rfl) (fun _ => rfl) rfl rfl dX4_init_10 ?_
  obtain ⟨gM0, hgM0⟩ : ∃ g1, g1 = z_gr gN0 13 0 14 := ⟨_, rfl⟩
  rw [show z_gr gN0 13 0 14 = gM0 from hgM0.symm]
  have ef0_13 : gN0.2.1 13 = gM0.2.1 13 := by rw [hgM0]; rfl
  rw [ef0_13]
  have hP0 : z_ob gM0 13 4 := by rw [hgM0]; exact z_ob_gr hO0
  have hw0 : z_wf gM0 := by rw [hgM0]; exact z_wf_gr (by rw [hgN0]; exact z_wf_add hw) hI0
  have hn15_0 : 15 ∉ gM0.1 := by rw [hgM0, hgN0]; exact z_ni hn15 (by decide)
  have hn16_0 : 16 ∉ gM0.1 := by rw [hgM0, hgN0]; exact z_ni hn16 (by decide)
  have hn17_0 : 17 ∉ gM0.1 := by rw [hgM0, hgN0]; exact z_ni hn17 (by decide)
  refine z_aload_n X dX4_init_13 rfl ?_
  refine z_bipush (v := 12) X (by decide) dX4_init_14 ?_
  refine z_newq X (i := 15) (N := 12) (t := 3) (by decide) rfl aX4_17 ao_Cable hw0 hn15_0 (by decide) (by decide) (by decide) (by omega) (Nat.le_of_ble_eq_true rfl) (Nat.le_of_ble_eq_true rfl) dX4_init_16 (fun a16 => ?_)
  obtain ⟨gN1, hgN1⟩ : ∃ g1, g1 = z_add gM0 15 a16 13 12 := ⟨_, rfl⟩
  rw [show z_add gM0 15 a16 13 12 = gN1 from hgN1.symm]
  have ea1 : a16 = gN1.2.1 15 := by rw [hgN1]; exact z_add_at.symm
  rw [ea1]
  have eo1_13 : gM0.2.1 13 = gN1.2.1 13 := by rw [hgN1]; exact (z_add_ne (by decide)).symm
  rw [eo1_13]
  have hO1 : z_ob gN1 13 4 := by rw [hgN1]; exact z_ob_add hP0 hn15_0
  have hI1 : 15 ∈ gN1.1 := by rw [hgN1]; exact z_ob_at.1
  refine z_putfr X pX4_19 hO1 (by decide) (fun _ => rfl) (fun _ => rfl) rfl rfl dX4_init_19 ?_
  obtain ⟨gM1, hgM1⟩ : ∃ g1, g1 = z_gr gN1 13 1 15 := ⟨_, rfl⟩
  rw [show z_gr gN1 13 1 15 = gM1 from hgM1.symm]
  have ef1_13 : gN1.2.1 13 = gM1.2.1 13 := by rw [hgM1]; rfl
  rw [ef1_13]
  have hP1 : z_ob gM1 13 4 := by rw [hgM1]; exact z_ob_gr hO1
  have hw1 : z_wf gM1 := by rw [hgM1]; exact z_wf_gr (by rw [hgN1]; exact z_wf_add hw0) hI1
  have hn16_1 : 16 ∉ gM1.1 := by rw [hgM1, hgN1]; exact z_ni hn16_0 (by decide)
  have hn17_1 : 17 ∉ gM1.1 := by rw [hgM1, hgN1]; exact z_ni hn17_0 (by decide)
  refine z_aload_n X dX4_init_22 rfl ?_
  refine z_bipush (v := 8) X (by decide) dX4_init_23 ?_
  refine z_newaI X (i := 16) (N := 8) ac_int hw1 hn16_1 (by decide) (by decide) (by decide) (by omega) (Nat.le_of_ble_eq_true rfl) (Nat.le_of_ble_eq_true rfl) dX4_init_25 (fun a25 => ?_)
  obtain ⟨gN2, hgN2⟩ : ∃ g1, g1 = z_add gM1 16 a25 10 8 := ⟨_, rfl⟩
  rw [show z_add gM1 16 a25 10 8 = gN2 from hgN2.symm]
  have ea2 : a25 = gN2.2.1 16 := by rw [hgN2]; exact z_add_at.symm
  rw [ea2]
  have eo2_13 : gM1.2.1 13 = gN2.2.1 13 := by rw [hgN2]; exact (z_add_ne (by decide)).symm
  rw [eo2_13]
  have hO2 : z_ob gN2 13 4 := by rw [hgN2]; exact z_ob_add hP1 hn16_1
  have hI2 : 16 ∈ gN2.1 := by rw [hgN2]; exact z_ob_at.1
  refine z_putfr X pX4_23 hO2 (by decide) (fun _ => rfl) (fun _ => rfl) rfl rfl dX4_init_27 ?_
  obtain ⟨gM2, hgM2⟩ : ∃ g1, g1 = z_gr gN2 13 2 16 := ⟨_, rfl⟩
  rw [show z_gr gN2 13 2 16 = gM2 from hgM2.symm]
  have ef2_13 : gN2.2.1 13 = gM2.2.1 13 := by rw [hgM2]; rfl
  rw [ef2_13]
  have hP2 : z_ob gM2 13 4 := by rw [hgM2]; exact z_ob_gr hO2
  have hw2 : z_wf gM2 := by rw [hgM2]; exact z_wf_gr (by rw [hgN2]; exact z_wf_add hw1) hI2
  have hn17_2 : 17 ∉ gM2.1 := by rw [hgM2, hgN2]; exact z_ni hn17_1 (by decide)
  refine z_aload_n X dX4_init_30 rfl ?_
  refine z_bipush (v := 8) X (by decide) dX4_init_31 ?_
  refine z_newaI X (i := 17) (N := 8) ac_int hw2 hn17_2 (by decide) (by decide) (by decide) (by omega) (Nat.le_of_ble_eq_true rfl) (Nat.le_of_ble_eq_true rfl) dX4_init_33 (fun a33 => ?_)
  obtain ⟨gN3, hgN3⟩ : ∃ g1, g1 = z_add gM2 17 a33 10 8 := ⟨_, rfl⟩
  rw [show z_add gM2 17 a33 10 8 = gN3 from hgN3.symm]
  have ea3 : a33 = gN3.2.1 17 := by rw [hgN3]; exact z_add_at.symm
  rw [ea3]
  have eo3_13 : gM2.2.1 13 = gN3.2.1 13 := by rw [hgN3]; exact (z_add_ne (by decide)).symm
  rw [eo3_13]
  have hO3 : z_ob gN3 13 4 := by rw [hgN3]; exact z_ob_add hP2 hn17_2
  have hI3 : 17 ∈ gN3.1 := by rw [hgN3]; exact z_ob_at.1
  refine z_putfr X pX4_27 hO3 (by decide) (fun _ => rfl) (fun _ => rfl) rfl rfl dX4_init_35 ?_
  obtain ⟨gM3, hgM3⟩ : ∃ g1, g1 = z_gr gN3 13 3 17 := ⟨_, rfl⟩
  rw [show z_gr gN3 13 3 17 = gM3 from hgM3.symm]
  have ef3_13 : gN3.2.1 13 = gM3.2.1 13 := by rw [hgM3]; rfl
  rw [ef3_13]
  have hP3 : z_ob gM3 13 4 := by rw [hgM3]; exact z_ob_gr hO3
  have hw3 : z_wf gM3 := by rw [hgM3]; exact z_wf_gr (by rw [hgN3]; exact z_wf_add hw2) hI3
  refine z_aload_n X dX4_init_38 rfl ?_
  refine z_iconst (v := 0) X (by decide) dX4_init_39 ?_
  refine z_puti X fX4_30 hP3 rfl dX4_init_40 ?_
  refine z_aload_n X dX4_init_43 rfl ?_
  refine z_iconst (v := 0) X (by decide) dX4_init_44 ?_
  refine z_puti X fX4_34 hP3 rfl dX4_init_45 ?_
  refine z_aload_n X dX4_init_48 rfl ?_
  refine z_iconst (v := 0) X (by decide) dX4_init_49 ?_
  refine z_puti X fX4_37 hP3 rfl dX4_init_50 ?_
  refine z_vret X (by decide) (by decide) rfl dX4_init_53 ?_
  exact ⟨rfl, a7, a16, a25, a33, by rw [hgM3, hgN3, hgM2, hgN2, hgM1, hgN1, hgM0, hgN0]; rfl, rfl⟩
