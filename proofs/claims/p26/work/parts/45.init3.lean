/-! contract: the constructor of a message -/
/-- what there was is there: but for the references of x -/
def zEx (x : Nat) (g g' : zSh) : Prop := ∀ i ∈ g.1, i ∈ g'.1 ∧ g'.2.1 i = g.2.1 i ∧ g'.2.2.1 i = g.2.2.1 i ∧ g'.2.2.2.1 i = g.2.2.2.1 i ∧ (i ≠ x → ∀ k, g'.2.2.2.2 i k = g.2.2.2.2 i k)
theorem zEx_rf {x : Nat} {g : zSh} : zEx x g g := fun i hi => ⟨hi, rfl, rfl, rfl, fun _ _ => rfl⟩
theorem zEx_t {x : Nat} {a b c : zSh} (h1 : zEx x a b) (h2 : zEx x b c) : zEx x a c := by
  intro i hi
  obtain ⟨q1, q2, q3, q4, q5⟩ := h1 i hi
  obtain ⟨r1, r2, r3, r4, r5⟩ := h2 i q1
  exact ⟨r1, r2.trans q2, r3.trans q3, r4.trans q4, fun hx k => (r5 hx k).trans (q5 hx k)⟩
theorem zEx_add {x : Nat} {g : zSh} {j a kd n : Nat} (hj : j ∉ g.1) : zEx x g (z_add g j a kd n) := by
  intro i hi
  have hne : i ≠ j := fun q => hj (q ▸ hi)
  refine ⟨List.mem_append_left _ hi, if_neg hne, if_neg hne, if_neg hne, fun _ k => ?_⟩
  show (if i = j then 0 else g.2.2.2.2 i k) = _
  rw [if_neg hne]
theorem zEx_gr {g : zSh} {x k j : Nat} : zEx x g (z_gr g x k j) := by
  intro i hi
  refine ⟨hi, rfl, rfl, rfl, fun hx q => ?_⟩
  show z_upR _ _ _ _ i q = _
  unfold z_upR; rw [if_neg hx]
theorem zEx_aa {g : zSh} {x j a kd n k : Nat} (hj : j ∉ g.1) : zEx x g (zAa g x j a kd n k) := zEx_t (zEx_add hj) zEx_gr
theorem z_ob_ex {x : Nat} {g g' : zSh} (h : zEx x g g') {i c : Nat} (ho : z_ob g i c) : z_ob g' i c := ⟨(h i ho.1).1, ((h i ho.1).2.2.1).trans ho.2⟩
theorem z_ar_ex {x : Nat} {g g' : zSh} (h : zEx x g g') {i t n : Nat} (ho : z_ar g i t n) : z_ar g' i t n := ⟨(h i ho.1).1, ((h i ho.1).2.2.1).trans ho.2.1, ((h i ho.1).2.2.2.1).trans ho.2.2⟩
theorem z_rf_ex {x : Nat} {g g' : zSh} (h : zEx x g g') {i k j : Nat} (hi : i ∈ g.1) (hx : i ≠ x) (ho : z_rf g i k j) : z_rf g' i k j := ⟨((h i hi).2.2.2.2 hx k).trans ho.1, ho.2⟩
theorem zS_mem {g : zSh} (h : zS g) : ∀ q ∈ zrfs, q.1 ∈ g.1 := by
  intro q hq
  have hm : ∃ c, (q.1, c) ∈ zobs := by
    revert q
    have : ∀ q ∈ zrfs, ∃ r ∈ zobs, r.1 = q.1 := by decide
    intro q hq
    obtain ⟨r, h1, h2⟩ := this q hq
    exact ⟨r.2, by rw [← h2]; exact h1⟩
  obtain ⟨c, hc⟩ := hm
  exact (h.1 _ hc).1
theorem zS_ex {x : Nat} {g g' : zSh} (h : zEx x g g') (hx : 100 ≤ x) (hS : zS g) : zS g' := by
  refine ⟨fun q hq => z_ob_ex h (hS.1 q hq), fun q hq => z_ar_ex h (hS.2.1 q hq), fun q hq => z_rf_ex h (zS_mem hS q hq) ?_ (hS.2.2 q hq)⟩
  have : ∀ q ∈ zrfs, q.1 < 100 := by decide
  have := this q hq
  omega
theorem zC_ex {x n : Nat} {g g' : zSh} (h : zEx x g g') (hx : 200 ≤ x) (hS : zS g) (hC : zC g n) : zC g' n := by
  refine ⟨hC.1, fun c hc => ⟨z_ob_ex h (hC.2.1 c hc).1, z_rf_ex h (zsa_15 hS).1 (by omega) (hC.2.1 c hc).2⟩, fun c hc => ?_⟩
  rw [(h 15 (zsa_15 hS).1).2.2.2.2 (by omega)]; exact hC.2.2 c hc
theorem zO_ex {x n : Nat} {g g' : zSh} (h : zEx x g g') (hx : 200 ≤ x) (hS : zS g) (hO : zO g n) : zO g' n := by
  have hn := hO.1
  refine ⟨hO.1, fun o ho => ?_, fun o ho => ?_⟩
  · obtain ⟨h1, h2, h3, h4⟩ := hO.2.1 o ho
    exact ⟨z_ob_ex h h1, z_rf_ex h h1.1 (by omega) h2, z_ar_ex h h3, z_rf_ex h (zsa_14 hS).1 (by omega) h4⟩
  · rw [(h 14 (zsa_14 hS).1).2.2.2.2 (by omega)]; exact hO.2.2 o ho
theorem zU_ex {x n : Nat} {g g' : zSh} (h : zEx x g g') (hx : 200 ≤ x) (hS : zS g) (hU : zU g n) : zU g' n := by
  refine ⟨hU.1, fun c hc => ⟨z_ob_ex h (hU.2.1 c hc).1, z_rf_ex h (zsa_19 hS).1 (by omega) (hU.2.1 c hc).2⟩, fun c hc => ?_⟩
  rw [(h 19 (zsa_19 hS).1).2.2.2.2 (by omega)]; exact hU.2.2 c hc
theorem zAa_ob {g : zSh} {x j a kd n k : Nat} : z_ob (zAa g x j a kd n k) j kd := z_ob_gr z_ob_at
theorem zAa_rf {g : zSh} {x j a kd n k : Nat} (hj : j ≠ 0) : z_rf (zAa g x j a kd n k) x k j := ⟨by show z_upR _ _ _ _ x k = j; unfold z_upR; rw [if_pos rfl, if_pos rfl], hj⟩
theorem zAa_rk {g : zSh} {x j a kd n k q r : Nat} (hx : x ≠ j) (hk : q ≠ k) (h : z_rf g x q r) : z_rf (zAa g x j a kd n k) x q r := by
  refine ⟨?_, h.2⟩
  show z_upR _ _ _ _ x q = r
  unfold z_upR; rw [if_pos rfl, if_neg hk]
  show (if x = j then 0 else g.2.2.2.2 x q) = r
  rw [if_neg hx]; exact h.1
theorem zAa_ar {g : zSh} {x j a t n k : Nat} : z_ar (zAa g x j a (10 + t) n k) j t n := z_ar_at (g := g) (a := a)
def zMn (σ σ' : zIn) (nm : Nat) (x1 x2 x3 : Int32) (many W RL rr : Nat) : Prop := (∀ i, i ≠ 200 + nm → i ≠ 300 + nm → i ≠ 400 + nm → i ≠ 500 + nm → σ' i = σ i) ∧ σ' (200 + nm) 0 = x1 ∧ σ' (200 + nm) 1 = x2 ∧ σ' (200 + nm) 2 = x3 ∧ σ' (200 + nm) 3 = σ 7 6 ∧ σ' (200 + nm) 4 = nI rr * σ 7 6 * zkt x3 ∧ σ' (200 + nm) 5 = zb (decide (0 < many)) ∧ σ' (200 + nm) 9 = 0 ∧ σ' (200 + nm) 10 = x1 ∧ σ' (200 + nm) 11 = 0 ∧ σ' (200 + nm) 12 = 0 ∧ (∀ k, k < W → σ' (300 + nm) k = σ 10 k ∧ σ' (400 + nm) k = σ 10 k) ∧ ∀ k, k < RL → σ' (500 + nm) k = σ 17 k
theorem z_zero_ne {σ : zIn} {i j : Nat} (h : j ≠ i) : z_zero σ i j = σ j := by
  funext k; rw [z_zero_app, if_neg h]
def zM1 (σ : zIn) (nm : Nat) (x1 x2 x3 : Int32) (many : Nat) : zIn := (z_up (z_up (z_up (z_up (z_up σ (200 + nm) 0 x1) (200 + nm) 1 x2) (200 + nm) 2 x3) (200 + nm) 3 (σ 7 6)) (200 + nm) 5 (zb (decide (0 < many))))
theorem zM1_ne {σ : zIn} {x1 x2 x3 : Int32} {nm many i : Nat} (h : i ≠ (200 + nm)) : zM1 σ nm x1 x2 x3 many i = σ i := by
  unfold zM1; rw [z_up_ne h, z_up_ne h, z_up_ne h, z_up_ne h, z_up_ne h]
theorem zMs9 {σ t0 t1 s9 : zIn} {x1 x2 x3 : Int32} {nm many W RL : Nat} (h0 : zCp (zM1 σ nm x1 x2 x3 many) 10 (300 + nm) W t0) (h1 : zCp t0 10 (400 + nm) W t1) (h2 : zCp t1 17 (500 + nm) RL s9) : (∀ i, i ≠ 200 + nm → i ≠ 300 + nm → i ≠ 400 + nm → i ≠ 500 + nm → s9 i = σ i) ∧ s9 (200 + nm) 0 = x1 ∧ s9 (200 + nm) 1 = x2 ∧ s9 (200 + nm) 2 = x3 ∧ s9 (200 + nm) 3 = σ 7 6 ∧ s9 (200 + nm) 5 = zb (decide (0 < many)) ∧ (∀ k, k < W → s9 (300 + nm) k = σ 10 k ∧ s9 (400 + nm) k = σ 10 k) ∧ ∀ k, k < RL → s9 (500 + nm) k = σ 17 k := by
  have eI : s9 (200 + nm) = zM1 σ nm x1 x2 x3 many (200 + nm) := by rw [h2.1 _ (by omega), h1.1 _ (by omega), h0.1 _ (by omega)]
  refine ⟨fun i q2 q3 q4 q5 => by rw [h2.1 i q5, h1.1 i q4, h0.1 i q3, zM1_ne q2], ?_, ?_, ?_, ?_, ?_, fun k hk => ⟨?_, ?_⟩, fun k hk => ?_⟩
  · rw [eI]; simp [zM1, z_up_app]
  · rw [eI]; simp [zM1, z_up_app]
  · rw [eI]; simp [zM1, z_up_app]
  · rw [eI]; simp [zM1, z_up_app]
  · rw [eI]; simp [zM1, z_up_app]
  · rw [h2.1 _ (by omega), h1.1 _ (by omega), h0.2 k hk, zM1_ne (by omega)]
  · rw [h2.1 _ (by omega), h1.2 k hk, h0.1 _ (by omega), zM1_ne (by omega)]
  · rw [h2.2 k hk, h1.1 _ (by omega), h0.1 _ (by omega), zM1_ne (by omega)]
theorem zMn_of {σ t0 t1 s9 : zIn} {x1 x2 x3 : Int32} {nm many W RL rr : Nat} (q0 : zCp (zM1 σ nm x1 x2 x3 many) 10 (300 + nm) W t0) (q1 : zCp t0 10 (400 + nm) W t1) (q2 : zCp t1 17 (500 + nm) RL s9) : zMn σ (z_up (z_up (z_up (z_up (z_up s9 (200 + nm) 4 (nI rr * s9 (200 + nm) 3 * zkt (s9 (200 + nm) 2))) (200 + nm) 9 (nI 0)) (200 + nm) 10 x1) (200 + nm) 11 (nI 0)) (200 + nm) 12 (nI 0)) nm x1 x2 x3 many W RL rr := by
  obtain ⟨h0, h1, h2, h3, h4, h5, h6, h7⟩ := zMs9 q0 q1 q2
  refine ⟨fun i q1 q2 q3 q4 => by rw [z_up_ne q1, z_up_ne q1, z_up_ne q1, z_up_ne q1, z_up_ne q1]; exact h0 i q1 q2 q3 q4, ?_, ?_, ?_, ?_, ?_, ?_, ?_, ?_, ?_, ?_, fun k hk => ?_, fun k hk => ?_⟩
  · simp [z_up_app, h1]
  · simp [z_up_app, h2]
  · simp [z_up_app, h3]
  · simp [z_up_app, h4]
  · simp [z_up_app, h3, h4]
  · simp [z_up_app, h5]
  · simp [z_up_app]; rfl
  · simp [z_up_app]
  · simp [z_up_app]; rfl
  · simp [z_up_app]; rfl
  · simp (disch := omega) only [z_up_ne]; exact h6 k hk
  · simp (disch := omega) only [z_up_ne]; exact h7 k hk
set_option maxHeartbeats 4000000 in
set_option maxRecDepth 100000 in
theorem tX3_init {l : Launch} {D : va_G} {cy : Nat → ClassId} {z0 : zRg} {g : zSh} {σ : zIn} {nm W RL nc many : Nat} {ro rt : Nat → Nat} (x1 x2 x3 : Int32) (hS : zS g) (hK : zC g nc) (hnc : σ 13 5 = nI nc) (hnm : nm < 60) (hw0 : z_wf g) (hob0 : z_ob g (200 + nm) 3) (hn3_0 : 300 + nm ∉ g.1) (hn4_0 : 400 + nm ∉ g.1) (hn5_0 : 500 + nm ∉ g.1) (hW : σ 7 4 = nI W) (hW24 : W ≤ 24) (hcc : σ 7 5 = nI many) (hmn : many ≤ 24) (hRLe : σ 13 6 = nI RL) (hRL : RL < 8) (hro : ∀ i, i < RL → σ 17 i = nI (ro i) ∧ ro i < nc) (hrt : ∀ c, c < nc → σ (120 + c) 2 = nI (rt c)) : z_Ct l D cy z0 MX3_init [.ref (g.2.1 (200 + nm)), .int x1, .int x2, .int x3, .ref (g.2.1 7), .ref (g.2.1 13)] g σ (fun v g' σ' => v = none ∧ ∃ a b d, g' = zAa (zAa (zAa g (200 + nm) (300 + nm) a 10 W 6) (200 + nm) (400 + nm) b 10 W 7) (200 + nm) (500 + nm) d 10 RL 8 ∧ zMn σ σ' nm x1 x2 x3 many W RL (zsum (fun i => rt (ro i)) RL)) := by
  have hnc12 := hK.1
  refine z_ofM (by decide) (z_cr (z_ci (z_ci (z_ci (z_cr (z_cr z_c0)))))) (Nat.le_of_ble_eq_true rfl) ?_
  intro p e s m args below meth c X
  refine z_aload_n X dX3_init_0 rfl ?_
  refine z_objInit X oX3_3 oi_inst oi_code (by decide) (by decide) dX3_init_1 ?_
  refine z_aload_n X dX3_init_4 rfl ?_
  refine z_iload_n X dX3_init_5 rfl ?_
  refine z_putfi X pX3_9 (hob0) rfl rfl dX3_init_6 ?_
  refine z_aload_n X dX3_init_9 rfl ?_
  refine z_iload_n X dX3_init_10 rfl ?_
  refine z_putfi X pX3_15 (hob0) rfl rfl dX3_init_11 ?_
  refine z_aload_n X dX3_init_14 rfl ?_
  refine z_iload_n X dX3_init_15 rfl ?_
  refine z_putfi X pX3_18 (hob0) rfl rfl dX3_init_16 ?_
  refine z_aload_n X dX3_init_19 rfl ?_
  refine z_aload X dX3_init_20 rfl ?_
  refine z_geti X fX3_21 (zso_7 hS) rfl dX3_init_22 ?_
  rw [z_up_ne (show 7 ≠ 200 + nm by omega), z_up_ne (show 7 ≠ 200 + nm by omega), z_up_ne (show 7 ≠ 200 + nm by omega)]
  refine z_putfi X pX3_26 (hob0) rfl rfl dX3_init_25 ?_
  refine z_aload_n X dX3_init_28 rfl ?_
  refine z_aload X dX3_init_29 rfl ?_
  refine z_geti X fX3_27 (zso_7 hS) rfl dX3_init_31 ?_
  rw [z_up_ne (show 7 ≠ 200 + nm by omega), z_up_ne (show 7 ≠ 200 + nm by omega), z_up_ne (show 7 ≠ 200 + nm by omega), z_up_ne (show 7 ≠ 200 + nm by omega), hcc]
  refine z_if_le (tgt := 41) X dX3_init_34 (by decide) (fun c_34 => ?_) (fun c_34 => ?_)
  · skip
    try simp (disch := omega) only [zk0, nI_leI, nI_ltI, nI_eq, zbk_notn, zbk_not, zbk_n0, zbk_0, zb_0, zb_n0, zb_not, zb_notn, Bool.not_eq_false, Bool.not_eq_true, Bool.not_eq_true', Bool.not_eq_false', decide_eq_true_eq, decide_eq_false_iff_not, Classical.not_not] at c_34
    refine z_iconst (v := nI 0) X (by decide) dX3_init_41 ?_
    first | rw [show Value.int (nI 1) = Value.int (zb (decide (0 < many))) from by rw [decide_eq_true (by omega)]; rfl] | rw [show Value.int (nI 0) = Value.int (zb (decide (0 < many))) from by rw [decide_eq_false (by omega)]; rfl]
    refine z_putfz X pX3_30 (hob0) (by first | exact Or.inl rfl | exact Or.inr rfl | exact zb_01 _ | assumption) rfl rfl dX3_init_42 ?_
    rw [show (z_up (z_up (z_up (z_up (z_up σ (200 + nm) 0 x1) (200 + nm) 1 x2) (200 + nm) 2 x3) (200 + nm) 3 (σ 7 6)) (200 + nm) 5 (zb (decide (0 < many)))) = zM1 σ nm x1 x2 x3 many from rfl]
    refine z_aload_n X dX3_init_45 rfl ?_
    refine z_aload X dX3_init_46 rfl ?_
    refine z_runV X kX3_34 (tX6_wordRow (j := (300 + nm)) hS (by rw [zM1_ne (by omega)]; exact hW) hW24 hw0 hn3_0 (by omega)) (zso_7 hS) rfl rfl (Nat.le_of_ble_eq_true rfl) ⟨by decide, by decide⟩ ⟨by decide, by show 0 + 24 ≤ 56; omega⟩ dX3_init_48 ?_
    rintro _ gN0 t0 ⟨a48, rfl, hgN0, hCp0⟩
    have ea0 : a48 = gN0.2.1 (300 + nm) := by rw [hgN0]; exact z_add_at.symm
    rw [ea0]
    have eo0_0 : g.2.1 (200 + nm) = gN0.2.1 (200 + nm) := by rw [hgN0]; exact (z_add_ne (by omega)).symm
    rw [eo0_0]
    have eo0_1 : g.2.1 7 = gN0.2.1 7 := by rw [hgN0]; exact (z_add_ne (by omega)).symm
    rw [eo0_1]
    have eo0_2 : g.2.1 13 = gN0.2.1 13 := by rw [hgN0]; exact (z_add_ne (by omega)).symm
    rw [eo0_2]
    have hO0 : z_ob gN0 (200 + nm) 3 := by rw [hgN0]; exact z_ob_add hob0 hn3_0
    refine z_putfr X pX3_38 hO0 (by omega) (fun _ => rfl) (fun _ => rfl) rfl rfl dX3_init_51 ?_
    obtain ⟨gM0, hgM0⟩ : ∃ g1, g1 = z_gr gN0 (200 + nm) 6 (300 + nm) := ⟨_, rfl⟩
    rw [show z_gr gN0 (200 + nm) 6 (300 + nm) = gM0 from hgM0.symm]
    have ef0_0 : gN0.2.1 (200 + nm) = gM0.2.1 (200 + nm) := by rw [hgM0]; rfl
    rw [ef0_0]
    have ef0_1 : gN0.2.1 7 = gM0.2.1 7 := by rw [hgM0]; rfl
    rw [ef0_1]
    have ef0_2 : gN0.2.1 13 = gM0.2.1 13 := by rw [hgM0]; rfl
    rw [ef0_2]
    have hE0 : zEx (200 + nm) g gM0 := by rw [hgM0, hgN0]; exact zEx_aa hn3_0
    have hw1 : z_wf gM0 := by rw [hgM0]; exact z_wf_gr (by rw [hgN0]; exact z_wf_add hw0) (by rw [hgN0]; exact List.mem_append_right _ (List.mem_singleton.mpr rfl))
    have hob1 : z_ob gM0 (200 + nm) 3 := z_ob_ex hE0 hob0
    have hn4_1 : (400 + nm) ∉ gM0.1 := by rw [hgM0, hgN0]; exact z_ni hn4_0 (by omega)
    have hn5_1 : (500 + nm) ∉ gM0.1 := by rw [hgM0, hgN0]; exact z_ni hn5_0 (by omega)
    have har0 : z_ar gM0 (300 + nm) 0 W := by rw [hgM0, hgN0]; exact zAa_ar (t := 0)
    have hrf0 : z_rf gM0 (200 + nm) 6 (300 + nm) := by rw [hgM0, hgN0]; exact zAa_rf (by omega)
    have hS1 : zS gM0 := zS_ex hE0 (by omega) hS
    have hC1 : zC gM0 nc := zC_ex hE0 (by omega) hS hK
    refine z_aload_n X dX3_init_54 rfl ?_
    refine z_aload X dX3_init_55 rfl ?_
    refine z_runV X kX3_34 (tX6_wordRow (j := (400 + nm)) hS1 (by rw [hCp0.1 7 (by omega), zM1_ne (by omega)]; exact hW) hW24 hw1 hn4_1 (by omega)) (zso_7 hS1) rfl rfl (Nat.le_of_ble_eq_true rfl) ⟨by decide, by decide⟩ ⟨by decide, by show 0 + 24 + 24 ≤ 56; omega⟩ dX3_init_57 ?_
    rintro _ gN1 t1 ⟨a57, rfl, hgN1, hCp1⟩
    have ea1 : a57 = gN1.2.1 (400 + nm) := by rw [hgN1]; exact z_add_at.symm
    rw [ea1]
    have eo1_0 : gM0.2.1 (200 + nm) = gN1.2.1 (200 + nm) := by rw [hgN1]; exact (z_add_ne (by omega)).symm
    rw [eo1_0]
    have eo1_1 : gM0.2.1 7 = gN1.2.1 7 := by rw [hgN1]; exact (z_add_ne (by omega)).symm
    rw [eo1_1]
    have eo1_2 : gM0.2.1 13 = gN1.2.1 13 := by rw [hgN1]; exact (z_add_ne (by omega)).symm
    rw [eo1_2]
    have hO1 : z_ob gN1 (200 + nm) 3 := by rw [hgN1]; exact z_ob_add hob1 hn4_1
    refine z_putfr X pX3_42 hO1 (by omega) (fun _ => rfl) (fun _ => rfl) rfl rfl dX3_init_60 ?_
    obtain ⟨gM1, hgM1⟩ : ∃ g1, g1 = z_gr gN1 (200 + nm) 7 (400 + nm) := ⟨_, rfl⟩
    rw [show z_gr gN1 (200 + nm) 7 (400 + nm) = gM1 from hgM1.symm]
    have ef1_0 : gN1.2.1 (200 + nm) = gM1.2.1 (200 + nm) := by rw [hgM1]; rfl
    rw [ef1_0]
    have ef1_1 : gN1.2.1 7 = gM1.2.1 7 := by rw [hgM1]; rfl
    rw [ef1_1]
    have ef1_2 : gN1.2.1 13 = gM1.2.1 13 := by rw [hgM1]; rfl
    rw [ef1_2]
    have hE1 : zEx (200 + nm) gM0 gM1 := by rw [hgM1, hgN1]; exact zEx_aa hn4_1
    have hw2 : z_wf gM1 := by rw [hgM1]; exact z_wf_gr (by rw [hgN1]; exact z_wf_add hw1) (by rw [hgN1]; exact List.mem_append_right _ (List.mem_singleton.mpr rfl))
    have hob2 : z_ob gM1 (200 + nm) 3 := z_ob_ex hE1 hob1
    have hn5_2 : (500 + nm) ∉ gM1.1 := by rw [hgM1, hgN1]; exact z_ni hn5_1 (by omega)
    have har1 : z_ar gM1 (400 + nm) 0 W := by rw [hgM1, hgN1]; exact zAa_ar (t := 0)
    have hrf1 : z_rf gM1 (200 + nm) 7 (400 + nm) := by rw [hgM1, hgN1]; exact zAa_rf (by omega)
    have hS2 : zS gM1 := zS_ex hE1 (by omega) hS1
    have hC2 : zC gM1 nc := zC_ex hE1 (by omega) hS1 hC1
    refine z_aload_n X dX3_init_63 rfl ?_
    refine z_aload X dX3_init_64 rfl ?_
    refine z_runV X kX3_45 (tX4_routeRow (j := (500 + nm)) hS2 (by rw [hCp1.1 13 (by omega), hCp0.1 13 (by omega), zM1_ne (by omega)]; exact hRLe) (by omega) hw2 hn5_2 (by omega)) (zso_13 hS2) rfl rfl (Nat.le_of_ble_eq_true rfl) ⟨by decide, by decide⟩ ⟨by decide, by show 0 + 24 + 24 + 8 ≤ 56; omega⟩ dX3_init_66 ?_
    rintro _ gN2 t2 ⟨a66, rfl, hgN2, hCp2⟩
    have ea2 : a66 = gN2.2.1 (500 + nm) := by rw [hgN2]; exact z_add_at.symm
    rw [ea2]
    have eo2_0 : gM1.2.1 (200 + nm) = gN2.2.1 (200 + nm) := by rw [hgN2]; exact (z_add_ne (by omega)).symm
    rw [eo2_0]
    have eo2_1 : gM1.2.1 7 = gN2.2.1 7 := by rw [hgN2]; exact (z_add_ne (by omega)).symm
    rw [eo2_1]
    have eo2_2 : gM1.2.1 13 = gN2.2.1 13 := by rw [hgN2]; exact (z_add_ne (by omega)).symm
    rw [eo2_2]
    have hO2 : z_ob gN2 (200 + nm) 3 := by rw [hgN2]; exact z_ob_add hob2 hn5_2
    refine z_putfr X pX3_50 hO2 (by omega) (fun _ => rfl) (fun _ => rfl) rfl rfl dX3_init_69 ?_
    obtain ⟨gM2, hgM2⟩ : ∃ g1, g1 = z_gr gN2 (200 + nm) 8 (500 + nm) := ⟨_, rfl⟩
    rw [show z_gr gN2 (200 + nm) 8 (500 + nm) = gM2 from hgM2.symm]
    have ef2_0 : gN2.2.1 (200 + nm) = gM2.2.1 (200 + nm) := by rw [hgM2]; rfl
    rw [ef2_0]
    have ef2_1 : gN2.2.1 7 = gM2.2.1 7 := by rw [hgM2]; rfl
    rw [ef2_1]
    have ef2_2 : gN2.2.1 13 = gM2.2.1 13 := by rw [hgM2]; rfl
    rw [ef2_2]
    have hE2 : zEx (200 + nm) gM1 gM2 := by rw [hgM2, hgN2]; exact zEx_aa hn5_2
    have hw3 : z_wf gM2 := by rw [hgM2]; exact z_wf_gr (by rw [hgN2]; exact z_wf_add hw2) (by rw [hgN2]; exact List.mem_append_right _ (List.mem_singleton.mpr rfl))
    have hob3 : z_ob gM2 (200 + nm) 3 := z_ob_ex hE2 hob2
    have har2 : z_ar gM2 (500 + nm) 0 RL := by rw [hgM2, hgN2]; exact zAa_ar (t := 0)
    have hrf2 : z_rf gM2 (200 + nm) 8 (500 + nm) := by rw [hgM2, hgN2]; exact zAa_rf (by omega)
    have hS3 : zS gM2 := zS_ex hE2 (by omega) hS2
    have hC3 : zC gM2 nc := zC_ex hE2 (by omega) hS2 hC2
    have h99 := zMs9 hCp0 hCp1 hCp2
    have es := fun i q1 q2 q3 q4 => h99.1 i q1 q2 q3 q4
    refine z_aload_n X dX3_init_72 rfl ?_
    refine z_aload_n X dX3_init_73 rfl ?_
    refine z_aload X dX3_init_74 rfl ?_
    refine z_runV X kX3_53 (tX4_routeRate (ro := ro) (rt := rt) hS3 hC3 (by rw [es 13 (by omega) (by omega) (by omega) (by omega)]; exact hnc) (by rw [es 13 (by omega) (by omega) (by omega) (by omega)]; exact hRLe) (by omega) (fun i hi => by rw [es 17 (by omega) (by omega) (by omega) (by omega)]; exact hro i hi) (fun c hc => by rw [es (120 + c) (by omega) (by omega) (by omega) (by omega)]; exact hrt c hc)) (zso_13 hS3) rfl rfl (Nat.le_of_ble_eq_true rfl) ⟨by decide, by decide⟩ ⟨by decide, by show 0 + 24 + 24 + 8 + 0 ≤ 56; omega⟩ dX3_init_76 ?_
    rintro _ g1 s1 ⟨rfl, h8, h9⟩
    replace h8 := h8.symm
    subst h8
    replace h9 := h9.symm
    subst h9
    refine z_runV X kX3_57 (tX3_priceAt (nm := nm) (m9 := nm) _ hob3) (hob3) rfl rfl (Nat.le_of_ble_eq_true rfl) ⟨by decide, by decide⟩ ⟨by decide, by show 0 + 24 + 24 + 8 + 0 + 0 ≤ 56; omega⟩ dX3_init_79 ?_
    rintro _ g1 s1 ⟨rfl, h8, h9⟩
    replace h8 := h8.symm
    subst h8
    replace h9 := h9.symm
    subst h9
    refine z_putfi X pX3_61 hob3 rfl rfl dX3_init_82 ?_
    refine z_aload_n X dX3_init_85 rfl ?_
    refine z_iconst (v := nI 0) X (by decide) dX3_init_86 ?_
    refine z_puti X fX3_64 hob3 rfl dX3_init_87 ?_
    refine z_aload_n X dX3_init_90 rfl ?_
    refine z_iload_n X dX3_init_91 rfl ?_
    refine z_puti X fX3_67 hob3 rfl dX3_init_92 ?_
    refine z_aload_n X dX3_init_95 rfl ?_
    refine z_iconst (v := nI 0) X (by decide) dX3_init_96 ?_
    refine z_puti X fX3_70 hob3 rfl dX3_init_97 ?_
    refine z_aload_n X dX3_init_100 rfl ?_
    refine z_iconst (v := nI 0) X (by decide) dX3_init_101 ?_
    refine z_puti X fX3_73 hob3 rfl dX3_init_102 ?_
    refine z_vret X (by decide) (by show 0 + 24 + 24 + 8 + 0 + 0 ≤ 56; omega) rfl dX3_init_105 ?_
    exact ⟨rfl, a48, a57, a66, by rw [hgM2, hgN2, hgM1, hgN1, hgM0, hgN0]; rfl, zMn_of hCp0 hCp1 hCp2⟩
  · skip
    try simp (disch := omega) only [zk0, nI_leI, nI_ltI, nI_eq, zbk_notn, zbk_not, zbk_n0, zbk_0, zb_0, zb_n0, zb_not, zb_notn, Bool.not_eq_false, Bool.not_eq_true, Bool.not_eq_true', Bool.not_eq_false', decide_eq_true_eq, decide_eq_false_iff_not, Classical.not_not] at c_34
    refine z_iconst (v := nI 1) X (by decide) dX3_init_37 ?_
    refine z_goto (tgt := 42) X dX3_init_38 (by decide) ?_
    first | rw [show Value.int (nI 1) = Value.int (zb (decide (0 < many))) from by rw [decide_eq_true (by omega)]; rfl] | rw [show Value.int (nI 0) = Value.int (zb (decide (0 < many))) from by rw [decide_eq_false (by omega)]; rfl]
    refine z_putfz X pX3_30 (hob0) (by first | exact Or.inl rfl | exact Or.inr rfl | exact zb_01 _ | assumption) rfl rfl dX3_init_42 ?_
    rw [show (z_up (z_up (z_up (z_up (z_up σ (200 + nm) 0 x1) (200 + nm) 1 x2) (200 + nm) 2 x3) (200 + nm) 3 (σ 7 6)) (200 + nm) 5 (zb (decide (0 < many)))) = zM1 σ nm x1 x2 x3 many from rfl]
    refine z_aload_n X dX3_init_45 rfl ?_
    refine z_aload X dX3_init_46 rfl ?_
    refine z_runV X kX3_34 (tX6_wordRow (j := (300 + nm)) hS (by rw [zM1_ne (by omega)]; exact hW) hW24 hw0 hn3_0 (by omega)) (zso_7 hS) rfl rfl (Nat.le_of_ble_eq_true rfl) ⟨by decide, by decide⟩ ⟨by decide, by show 0 + 24 ≤ 56; omega⟩ dX3_init_48 ?_
    rintro _ gN0 t0 ⟨a48, rfl, hgN0, hCp0⟩
    have ea0 : a48 = gN0.2.1 (300 + nm) := by rw [hgN0]; exact z_add_at.symm
    rw [ea0]
    have eo0_0 : g.2.1 (200 + nm) = gN0.2.1 (200 + nm) := by rw [hgN0]; exact (z_add_ne (by omega)).symm
    rw [eo0_0]
    have eo0_1 : g.2.1 7 = gN0.2.1 7 := by rw [hgN0]; exact (z_add_ne (by omega)).symm
    rw [eo0_1]
    have eo0_2 : g.2.1 13 = gN0.2.1 13 := by rw [hgN0]; exact (z_add_ne (by omega)).symm
    rw [eo0_2]
    have hO0 : z_ob gN0 (200 + nm) 3 := by rw [hgN0]; exact z_ob_add hob0 hn3_0
    refine z_putfr X pX3_38 hO0 (by omega) (fun _ => rfl) (fun _ => rfl) rfl rfl dX3_init_51 ?_
    obtain ⟨gM0, hgM0⟩ : ∃ g1, g1 = z_gr gN0 (200 + nm) 6 (300 + nm) := ⟨_, rfl⟩
    rw [show z_gr gN0 (200 + nm) 6 (300 + nm) = gM0 from hgM0.symm]
    have ef0_0 : gN0.2.1 (200 + nm) = gM0.2.1 (200 + nm) := by rw [hgM0]; rfl
    rw [ef0_0]
    have ef0_1 : gN0.2.1 7 = gM0.2.1 7 := by rw [hgM0]; rfl
    rw [ef0_1]
    have ef0_2 : gN0.2.1 13 = gM0.2.1 13 := by rw [hgM0]; rfl
    rw [ef0_2]
    have hE0 : zEx (200 + nm) g gM0 := by rw [hgM0, hgN0]; exact zEx_aa hn3_0
    have hw1 : z_wf gM0 := by rw [hgM0]; exact z_wf_gr (by rw [hgN0]; exact z_wf_add hw0) (by rw [hgN0]; exact List.mem_append_right _ (List.mem_singleton.mpr rfl))
    have hob1 : z_ob gM0 (200 + nm) 3 := z_ob_ex hE0 hob0
    have hn4_1 : (400 + nm) ∉ gM0.1 := by rw [hgM0, hgN0]; exact z_ni hn4_0 (by omega)
    have hn5_1 : (500 + nm) ∉ gM0.1 := by rw [hgM0, hgN0]; exact z_ni hn5_0 (by omega)
    have har0 : z_ar gM0 (300 + nm) 0 W := by rw [hgM0, hgN0]; exact zAa_ar (t := 0)
    have hrf0 : z_rf gM0 (200 + nm) 6 (300 + nm) := by rw [hgM0, hgN0]; exact zAa_rf (by omega)
    have hS1 : zS gM0 := zS_ex hE0 (by omega) hS
    have hC1 : zC gM0 nc := zC_ex hE0 (by omega) hS hK
    refine z_aload_n X dX3_init_54 rfl ?_
    refine z_aload X dX3_init_55 rfl ?_
    refine z_runV X kX3_34 (tX6_wordRow (j := (400 + nm)) hS1 (by rw [hCp0.1 7 (by omega), zM1_ne (by omega)]; exact hW) hW24 hw1 hn4_1 (by omega)) (zso_7 hS1) rfl rfl (Nat.le_of_ble_eq_true rfl) ⟨by decide, by decide⟩ ⟨by decide, by show 0 + 24 + 24 ≤ 56; omega⟩ dX3_init_57 ?_
    rintro _ gN1 t1 ⟨a57, rfl, hgN1, hCp1⟩
    have ea1 : a57 = gN1.2.1 (400 + nm) := by rw [hgN1]; exact z_add_at.symm
    rw [ea1]
    have eo1_0 : gM0.2.1 (200 + nm) = gN1.2.1 (200 + nm) := by rw [hgN1]; exact (z_add_ne (by omega)).symm
    rw [eo1_0]
    have eo1_1 : gM0.2.1 7 = gN1.2.1 7 := by rw [hgN1]; exact (z_add_ne (by omega)).symm
    rw [eo1_1]
    have eo1_2 : gM0.2.1 13 = gN1.2.1 13 := by rw [hgN1]; exact (z_add_ne (by omega)).symm
    rw [eo1_2]
    have hO1 : z_ob gN1 (200 + nm) 3 := by rw [hgN1]; exact z_ob_add hob1 hn4_1
    refine z_putfr X pX3_42 hO1 (by omega) (fun _ => rfl) (fun _ => rfl) rfl rfl dX3_init_60 ?_
    obtain ⟨gM1, hgM1⟩ : ∃ g1, g1 = z_gr gN1 (200 + nm) 7 (400 + nm) := ⟨_, rfl⟩
    rw [show z_gr gN1 (200 + nm) 7 (400 + nm) = gM1 from hgM1.symm]
    have ef1_0 : gN1.2.1 (200 + nm) = gM1.2.1 (200 + nm) := by rw [hgM1]; rfl
    rw [ef1_0]
    have ef1_1 : gN1.2.1 7 = gM1.2.1 7 := by rw [hgM1]; rfl
    rw [ef1_1]
    have ef1_2 : gN1.2.1 13 = gM1.2.1 13 := by rw [hgM1]; rfl
    rw [ef1_2]
    have hE1 : zEx (200 + nm) gM0 gM1 := by rw [hgM1, hgN1]; exact zEx_aa hn4_1
    have hw2 : z_wf gM1 := by rw [hgM1]; exact z_wf_gr (by rw [hgN1]; exact z_wf_add hw1) (by rw [hgN1]; exact List.mem_append_right _ (List.mem_singleton.mpr rfl))
    have hob2 : z_ob gM1 (200 + nm) 3 := z_ob_ex hE1 hob1
    have hn5_2 : (500 + nm) ∉ gM1.1 := by rw [hgM1, hgN1]; exact z_ni hn5_1 (by omega)
    have har1 : z_ar gM1 (400 + nm) 0 W := by rw [hgM1, hgN1]; exact zAa_ar (t := 0)
    have hrf1 : z_rf gM1 (200 + nm) 7 (400 + nm) := by rw [hgM1, hgN1]; exact zAa_rf (by omega)
    have hS2 : zS gM1 := zS_ex hE1 (by omega) hS1
    have hC2 : zC gM1 nc := zC_ex hE1 (by omega) hS1 hC1
    refine z_aload_n X dX3_init_63 rfl ?_
    refine z_aload X dX3_init_64 rfl ?_
    refine z_runV X kX3_45 (tX4_routeRow (j := (500 + nm)) hS2 (by rw [hCp1.1 13 (by omega), hCp0.1 13 (by omega), zM1_ne (by omega)]; exact hRLe) (by omega) hw2 hn5_2 (by omega)) (zso_13 hS2) rfl rfl (Nat.le_of_ble_eq_true rfl) ⟨by decide, by decide⟩ ⟨by decide, by show 0 + 24 + 24 + 8 ≤ 56; omega⟩ dX3_init_66 ?_
    rintro _ gN2 t2 ⟨a66, rfl, hgN2, hCp2⟩
    have ea2 : a66 = gN2.2.1 (500 + nm) := by rw [hgN2]; exact z_add_at.symm
    rw [ea2]
    have eo2_0 : gM1.2.1 (200 + nm) = gN2.2.1 (200 + nm) := by rw [hgN2]; exact (z_add_ne (by omega)).symm
    rw [eo2_0]
    have eo2_1 : gM1.2.1 7 = gN2.2.1 7 := by rw [hgN2]; exact (z_add_ne (by omega)).symm
    rw [eo2_1]
    have eo2_2 : gM1.2.1 13 = gN2.2.1 13 := by rw [hgN2]; exact (z_add_ne (by omega)).symm
    rw [eo2_2]
    have hO2 : z_ob gN2 (200 + nm) 3 := by rw [hgN2]; exact z_ob_add hob2 hn5_2
    refine z_putfr X pX3_50 hO2 (by omega) (fun _ => rfl) (fun _ => rfl) rfl rfl dX3_init_69 ?_
    obtain ⟨gM2, hgM2⟩ : ∃ g1, g1 = z_gr gN2 (200 + nm) 8 (500 + nm) := ⟨_, rfl⟩
    rw [show z_gr gN2 (200 + nm) 8 (500 + nm) = gM2 from hgM2.symm]
    have ef2_0 : gN2.2.1 (200 + nm) = gM2.2.1 (200 + nm) := by rw [hgM2]; rfl
    rw [ef2_0]
    have ef2_1 : gN2.2.1 7 = gM2.2.1 7 := by rw [hgM2]; rfl
    rw [ef2_1]
    have ef2_2 : gN2.2.1 13 = gM2.2.1 13 := by rw [hgM2]; rfl
    rw [ef2_2]
    have hE2 : zEx (200 + nm) gM1 gM2 := by rw [hgM2, hgN2]; exact zEx_aa hn5_2
    have hw3 : z_wf gM2 := by rw [hgM2]; exact z_wf_gr (by rw [hgN2]; exact z_wf_add hw2) (by rw [hgN2]; exact List.mem_append_right _ (List.mem_singleton.mpr rfl))
    have hob3 : z_ob gM2 (200 + nm) 3 := z_ob_ex hE2 hob2
    have har2 : z_ar gM2 (500 + nm) 0 RL := by rw [hgM2, hgN2]; exact zAa_ar (t := 0)
    have hrf2 : z_rf gM2 (200 + nm) 8 (500 + nm) := by rw [hgM2, hgN2]; exact zAa_rf (by omega)
    have hS3 : zS gM2 := zS_ex hE2 (by omega) hS2
    have hC3 : zC gM2 nc := zC_ex hE2 (by omega) hS2 hC2
    have h99 := zMs9 hCp0 hCp1 hCp2
    have es := fun i q1 q2 q3 q4 => h99.1 i q1 q2 q3 q4
    refine z_aload_n X dX3_init_72 rfl ?_
    refine z_aload_n X dX3_init_73 rfl ?_
    refine z_aload X dX3_init_74 rfl ?_
    refine z_runV X kX3_53 (tX4_routeRate (ro := ro) (rt := rt) hS3 hC3 (by rw [es 13 (by omega) (by omega) (by omega) (by omega)]; exact hnc) (by rw [es 13 (by omega) (by omega) (by omega) (by omega)]; exact hRLe) (by omega) (fun i hi => by rw [es 17 (by omega) (by omega) (by omega) (by omega)]; exact hro i hi) (fun c hc => by rw [es (120 + c) (by omega) (by omega) (by omega) (by omega)]; exact hrt c hc)) (zso_13 hS3) rfl rfl (Nat.le_of_ble_eq_true rfl) ⟨by decide, by decide⟩ ⟨by decide, by show 0 + 24 + 24 + 8 + 0 ≤ 56; omega⟩ dX3_init_76 ?_
    rintro _ g1 s1 ⟨rfl, h8, h9⟩
    replace h8 := h8.symm
    subst h8
    replace h9 := h9.symm
    subst h9
    refine z_runV X kX3_57 (tX3_priceAt (nm := nm) (m9 := nm) _ hob3) (hob3) rfl rfl (Nat.le_of_ble_eq_true rfl) ⟨by decide, by decide⟩ ⟨by decide, by show 0 + 24 + 24 + 8 + 0 + 0 ≤ 56; omega⟩ dX3_init_79 ?_
    rintro _ g1 s1 ⟨rfl, h8, h9⟩
    replace h8 := h8.symm
    subst h8
    replace h9 := h9.symm
    subst h9
    refine z_putfi X pX3_61 hob3 rfl rfl dX3_init_82 ?_
    refine z_aload_n X dX3_init_85 rfl ?_
    refine z_iconst (v := nI 0) X (by decide) dX3_init_86 ?_
    refine z_puti X fX3_64 hob3 rfl dX3_init_87 ?_
    refine z_aload_n X dX3_init_90 rfl ?_
    refine z_iload_n X dX3_init_91 rfl ?_
    refine z_puti X fX3_67 hob3 rfl dX3_init_92 ?_
    refine z_aload_n X dX3_init_95 rfl ?_
    refine z_iconst (v := nI 0) X (by decide) dX3_init_96 ?_
    refine z_puti X fX3_70 hob3 rfl dX3_init_97 ?_
    refine z_aload_n X dX3_init_100 rfl ?_
    refine z_iconst (v := nI 0) X (by decide) dX3_init_101 ?_
    refine z_puti X fX3_73 hob3 rfl dX3_init_102 ?_
    refine z_vret X (by decide) (by show 0 + 24 + 24 + 8 + 0 + 0 ≤ 56; omega) rfl dX3_init_105 ?_
    exact ⟨rfl, a48, a57, a66, by rw [hgM2, hgN2, hgM1, hgN1, hgM0, hgN0]; rfl, zMn_of hCp0 hCp1 hCp2⟩
