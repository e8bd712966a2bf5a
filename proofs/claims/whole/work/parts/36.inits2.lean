/-! contracts: constructors with arrays of their own -/
theorem z_wf_gr {g : zSh} {i k j : Nat} (h : z_wf g) (hj : j ∈ g.1) : z_wf (z_gr g i k j) := by
  intro i' hi' k'
  show z_upR g.2.2.2.2 i k j i' k' = 0 ∨ z_upR g.2.2.2.2 i k j i' k' ∈ g.1
  unfold z_upR
  split
  · split
    · exact Or.inr hj
    · exact h i' hi' k'
  · exact h i' hi' k'
theorem z_ni {g : zSh} {i id a kd n x k y : Nat} (h : i ∉ g.1) (hne : i ≠ id) : i ∉ (z_gr (z_add g id a kd n) x k y).1 := by
  intro q
  rcases List.mem_append.mp q with z | z
  · exact h z
  · exact hne (List.mem_singleton.mp z)
/-- a new array of id j at place k of object i -/
def zAa (g : zSh) (i j a kd n k : Nat) : zSh := z_gr (z_add g j a kd n) i k j
set_option maxHeartbeats 4000000 in
set_option maxRecDepth 100000 in
theorem tX2_init {l : Launch} {D : va_G} {cy : Nat → ClassId} {z0 : Nat} {g : zSh} {σ : zIn}  (hw : z_wf g) (hoi : z_ob g 11 2) (hn12 : 12 ∉ g.1) : z_Ct l D cy z0 MX2_init [.ref (g.2.1 11)] g σ (fun v g' σ' => v = none ∧ ∃ a7, g' = zAa (g) 11 12 a7 10 24 0 ∧ σ' = (z_up (z_zero σ 12) 11 1 0)) := by
  refine z_ofM (by decide) (z_cr z_c0) (Nat.le_of_ble_eq_true rfl) ?_
  intro p e s m args below meth c X
  refine z_aload_n X dX2_init_0 rfl ?_
  refine z_objInit X oX2_3 oi_inst oi_code (by decide) (by decide) dX2_init_1 ?_
  refine z_aload_n X dX2_init_4 rfl ?_
  refine z_bipush (v := 24) X (by decide) dX2_init_5 ?_
  refine z_newaI X (i := 12) (N := 24) ac_int hw hn12 (by decide) (by decide) (by decide) (by omega) (Nat.le_of_ble_eq_true rfl) (Nat.le_of_ble_eq_true rfl) dX2_init_7 (fun a7 => ?_)
  obtain ⟨gN0, hgN0⟩ : ∃ g1, g1 = z_add g 12 a7 10 24 := ⟨_, rfl⟩
  rw [show z_add g 12 a7 10 24 = gN0 from hgN0.symm]
  have ea0 : a7 = gN0.2.1 12 := by rw [hgN0]; exact z_add_at.symm
  rw [ea0]
  have eo0 : g.2.1 11 = gN0.2.1 11 := by rw [hgN0]; exact (z_add_ne (by decide)).symm
  rw [eo0]
  have hO0 : z_ob gN0 11 2 := by rw [hgN0]; exact z_ob_add hoi hn12
  have hI0 : 12 ∈ gN0.1 := by rw [hgN0]; exact z_ob_at.1
  refine z_putfr X pX2_9 hO0 (by decide) (fun _ => rfl) (fun _ => rfl) rfl rfl dX2_init_9 ?_
  obtain ⟨gM0, hgM0⟩ : ∃ g1, g1 = z_gr gN0 11 0 12 := ⟨_, rfl⟩
  rw [show z_gr gN0 11 0 12 = gM0 from hgM0.symm]
  have ef0 : gN0.2.1 11 = gM0.2.1 11 := by rw [hgM0]; rfl
  rw [ef0]
  have hP0 : z_ob gM0 11 2 := by rw [hgM0]; exact z_ob_gr hO0
  have hw0 : z_wf gM0 := by rw [hgM0]; exact z_wf_gr (by rw [hgN0]; exact z_wf_add hw) hI0
  refine z_aload_n X dX2_init_12 rfl ?_
  refine z_iconst (v := 0) X (by decide) dX2_init_13 ?_
  refine z_puti X fX2_15 hP0 rfl dX2_init_14 ?_
  refine z_vret X (by decide) (by decide) rfl dX2_init_17 ?_
  exact ⟨rfl, a7, by rw [hgM0, hgN0]; rfl, rfl⟩

set_option maxHeartbeats 4000000 in
set_option maxRecDepth 100000 in
theorem tX0_init {l : Launch} {D : va_G} {cy : Nat → ClassId} {z0 : Nat} {g : zSh} {σ : zIn}  (hw : z_wf g) (hoi : z_ob g 2 0) (hn3 : 3 ∉ g.1) (hn4 : 4 ∉ g.1) (hn5 : 5 ∉ g.1) (hn6 : 6 ∉ g.1) : z_Ct l D cy z0 MX0_init [.ref (g.2.1 2)] g σ (fun v g' σ' => v = none ∧ ∃ a7 a15 a24 a32, g' = zAa (zAa (zAa (zAa (g) 2 3 a7 10 30 0) 2 4 a15 10 40 1) 2 5 a24 10 160 2) 2 6 a32 10 40 3 ∧ σ' = (z_up (z_up (z_up (z_zero (z_zero (z_zero (z_zero σ 3) 4) 5) 6) 2 4 0) 2 5 0) 2 6 0)) := by
  refine z_ofM (by decide) (z_cr z_c0) (Nat.le_of_ble_eq_true rfl) ?_
  intro p e s m args below meth c X
  refine z_aload_n X dX0_init_0 rfl ?_
  refine z_objInit X oX0_3 oi_inst oi_code (by decide) (by decide) dX0_init_1 ?_
  refine z_aload_n X dX0_init_4 rfl ?_
  refine z_bipush (v := 30) X (by decide) dX0_init_5 ?_
  refine z_newaI X (i := 3) (N := 30) ac_int hw hn3 (by decide) (by decide) (by decide) (by omega) (Nat.le_of_ble_eq_true rfl) (Nat.le_of_ble_eq_true rfl) dX0_init_7 (fun a7 => ?_)
  obtain ⟨gN0, hgN0⟩ : ∃ g1, g1 = z_add g 3 a7 10 30 := ⟨_, rfl⟩
  rw [show z_add g 3 a7 10 30 = gN0 from hgN0.symm]
  have ea0 : a7 = gN0.2.1 3 := by rw [hgN0]; exact z_add_at.symm
  rw [ea0]
  have eo0 : g.2.1 2 = gN0.2.1 2 := by rw [hgN0]; exact (z_add_ne (by decide)).symm
  rw [eo0]
  have hO0 : z_ob gN0 2 0 := by rw [hgN0]; exact z_ob_add hoi hn3
  have hI0 : 3 ∈ gN0.1 := by rw [hgN0]; exact z_ob_at.1
  refine z_putfr X pX0_9 hO0 (by decide) (fun _ => rfl) (fun _ => rfl) rfl rfl dX0_init_9 ?_
  obtain ⟨gM0, hgM0⟩ : ∃ g1, g1 = z_gr gN0 2 0 3 := ⟨_, rfl⟩
  rw [show z_gr gN0 2 0 3 = gM0 from hgM0.symm]
  have ef0 : gN0.2.1 2 = gM0.2.1 2 := by rw [hgM0]; rfl
  rw [ef0]
  have hP0 : z_ob gM0 2 0 := by rw [hgM0]; exact z_ob_gr hO0
  have hw0 : z_wf gM0 := by rw [hgM0]; exact z_wf_gr (by rw [hgN0]; exact z_wf_add hw) hI0
  have hn4_0 : 4 ∉ gM0.1 := by rw [hgM0, hgN0]; exact z_ni hn4 (by decide)
  have hn5_0 : 5 ∉ gM0.1 := by rw [hgM0, hgN0]; exact z_ni hn5 (by decide)
  have hn6_0 : 6 ∉ gM0.1 := by rw [hgM0, hgN0]; exact z_ni hn6 (by decide)
  refine z_aload_n X dX0_init_12 rfl ?_
  refine z_bipush (v := 40) X (by decide) dX0_init_13 ?_
  refine z_newaI X (i := 4) (N := 40) ac_int hw0 hn4_0 (by decide) (by decide) (by decide) (by omega) (Nat.le_of_ble_eq_true rfl) (Nat.le_of_ble_eq_true rfl) dX0_init_15 (fun a15 => ?_)
  obtain ⟨gN1, hgN1⟩ : ∃ g1, g1 = z_add gM0 4 a15 10 40 := ⟨_, rfl⟩
  rw [show z_add gM0 4 a15 10 40 = gN1 from hgN1.symm]
  have ea1 : a15 = gN1.2.1 4 := by rw [hgN1]; exact z_add_at.symm
  rw [ea1]
  have eo1 : gM0.2.1 2 = gN1.2.1 2 := by rw [hgN1]; exact (z_add_ne (by decide)).symm
  rw [eo1]
  have hO1 : z_ob gN1 2 0 := by rw [hgN1]; exact z_ob_add hP0 hn4_0
  have hI1 : 4 ∈ gN1.1 := by rw [hgN1]; exact z_ob_at.1
  refine z_putfr X pX0_15 hO1 (by decide) (fun _ => rfl) (fun _ => rfl) rfl rfl dX0_init_17 ?_
  obtain ⟨gM1, hgM1⟩ : ∃ g1, g1 = z_gr gN1 2 1 4 := ⟨_, rfl⟩
  rw [show z_gr gN1 2 1 4 = gM1 from hgM1.symm]
  have ef1 : gN1.2.1 2 = gM1.2.1 2 := by rw [hgM1]; rfl
  rw [ef1]
  have hP1 : z_ob gM1 2 0 := by rw [hgM1]; exact z_ob_gr hO1
  have hw1 : z_wf gM1 := by rw [hgM1]; exact z_wf_gr (by rw [hgN1]; exact z_wf_add hw0) hI1
  have hn5_1 : 5 ∉ gM1.1 := by rw [hgM1, hgN1]; exact z_ni hn5_0 (by decide)
  have hn6_1 : 6 ∉ gM1.1 := by rw [hgM1, hgN1]; exact z_ni hn6_0 (by decide)
  refine z_aload_n X dX0_init_20 rfl ?_
  refine z_sipush (v := 160) X (by decide) dX0_init_21 ?_
  refine z_newaI X (i := 5) (N := 160) ac_int hw1 hn5_1 (by decide) (by decide) (by decide) (by omega) (Nat.le_of_ble_eq_true rfl) (Nat.le_of_ble_eq_true rfl) dX0_init_24 (fun a24 => ?_)
  obtain ⟨gN2, hgN2⟩ : ∃ g1, g1 = z_add gM1 5 a24 10 160 := ⟨_, rfl⟩
  rw [show z_add gM1 5 a24 10 160 = gN2 from hgN2.symm]
  have ea2 : a24 = gN2.2.1 5 := by rw [hgN2]; exact z_add_at.symm
  rw [ea2]
  have eo2 : gM1.2.1 2 = gN2.2.1 2 := by rw [hgN2]; exact (z_add_ne (by decide)).symm
  rw [eo2]
  have hO2 : z_ob gN2 2 0 := by rw [hgN2]; exact z_ob_add hP1 hn5_1
  have hI2 : 5 ∈ gN2.1 := by rw [hgN2]; exact z_ob_at.1
  refine z_putfr X pX0_18 hO2 (by decide) (fun _ => rfl) (fun _ => rfl) rfl rfl dX0_init_26 ?_
  obtain ⟨gM2, hgM2⟩ : ∃ g1, g1 = z_gr gN2 2 2 5 := ⟨_, rfl⟩
  rw [show z_gr gN2 2 2 5 = gM2 from hgM2.symm]
  have ef2 : gN2.2.1 2 = gM2.2.1 2 := by rw [hgM2]; rfl
  rw [ef2]
  have hP2 : z_ob gM2 2 0 := by rw [hgM2]; exact z_ob_gr hO2
  have hw2 : z_wf gM2 := by rw [hgM2]; exact z_wf_gr (by rw [hgN2]; exact z_wf_add hw1) hI2
  have hn6_2 : 6 ∉ gM2.1 := by rw [hgM2, hgN2]; exact z_ni hn6_1 (by decide)
  refine z_aload_n X dX0_init_29 rfl ?_
  refine z_bipush (v := 40) X (by decide) dX0_init_30 ?_
  refine z_newaI X (i := 6) (N := 40) ac_int hw2 hn6_2 (by decide) (by decide) (by decide) (by omega) (Nat.le_of_ble_eq_true rfl) (Nat.le_of_ble_eq_true rfl) dX0_init_32 (fun a32 => ?_)
  obtain ⟨gN3, hgN3⟩ : ∃ g1, g1 = z_add gM2 6 a32 10 40 := ⟨_, rfl⟩
  rw [show z_add gM2 6 a32 10 40 = gN3 from hgN3.symm]
  have ea3 : a32 = gN3.2.1 6 := by rw [hgN3]; exact z_add_at.symm
  rw [ea3]
  have eo3 : gM2.2.1 2 = gN3.2.1 2 := by rw [hgN3]; exact (z_add_ne (by decide)).symm
  rw [eo3]
  have hO3 : z_ob gN3 2 0 := by rw [hgN3]; exact z_ob_add hP2 hn6_2
  have hI3 : 6 ∈ gN3.1 := by rw [hgN3]; exact z_ob_at.1
  refine z_putfr X pX0_21 hO3 (by decide) (fun _ => rfl) (fun _ => rfl) rfl rfl dX0_init_34 ?_
  obtain ⟨gM3, hgM3⟩ : ∃ g1, g1 = z_gr gN3 2 3 6 := ⟨_, rfl⟩
  rw [show z_gr gN3 2 3 6 = gM3 from hgM3.symm]
  have ef3 : gN3.2.1 2 = gM3.2.1 2 := by rw [hgM3]; rfl
  rw [ef3]
  have hP3 : z_ob gM3 2 0 := by rw [hgM3]; exact z_ob_gr hO3
  have hw3 : z_wf gM3 := by rw [hgM3]; exact z_wf_gr (by rw [hgN3]; exact z_wf_add hw2) hI3
  refine z_aload_n X dX0_init_37 rfl ?_
  refine z_iconst (v := 0) X (by decide) dX0_init_38 ?_
  refine z_puti X fX0_24 hP3 rfl dX0_init_39 ?_
  refine z_aload_n X dX0_init_42 rfl ?_
  refine z_iconst (v := 0) X (by decide) dX0_init_43 ?_
  refine z_puti X fX0_28 hP3 rfl dX0_init_44 ?_
  refine z_aload_n X dX0_init_47 rfl ?_
  refine z_iconst (v := 0) X (by decide) dX0_init_48 ?_
  refine z_puti X fX0_31 hP3 rfl dX0_init_49 ?_
  refine z_vret X (by decide) (by decide) rfl dX0_init_52 ?_
  exact ⟨rfl, a7, a15, a24, a32, by rw [hgM3, hgN3, hgM2, hgN2, hgM1, hgN1, hgM0, hgN0]; rfl, rfl⟩
