def zln5 (g : zSh) (m : Nat) : Nat := g.2.2.2.1 (500 + m)
def zln3 (g : zSh) (m : Nat) : Nat := g.2.2.2.1 (300 + m)
/-! the shape of the world after each call that makes objects -/
def zFh (g : zSh) (no nc nu nm : Nat) : Prop := ∀ i, i ∈ g.1 → i < 60 ∨ (100 ≤ i ∧ i < 100 + no) ∨ (110 ≤ i ∧ i < 110 + no) ∨ (120 ≤ i ∧ i < 120 + nc) ∨ (140 ≤ i ∧ i < 140 + nu) ∨ (200 ≤ i ∧ i < 200 + nm) ∨ (300 ≤ i ∧ i < 300 + nm) ∨ (400 ≤ i ∧ i < 400 + nm) ∨ (500 ≤ i ∧ i < 500 + nm)
def zSP (g : zSh) (no nc nu nm : Nat) : Prop := zS g ∧ z_wf g ∧ zO g no ∧ zC g nc ∧ zU g nu ∧ zG g nm ∧ zFh g no nc nu nm
theorem zSP_fr {g : zSh} {no nc nu nm : Nat} (h : zSP g no nc nu nm) : (100 + no ∉ g.1 ∧ 110 + no ∉ g.1) ∧ 120 + nc ∉ g.1 ∧ 140 + nu ∉ g.1 ∧ 200 + nm ∉ g.1 ∧ 300 + nm ∉ g.1 ∧ 400 + nm ∉ g.1 ∧ 500 + nm ∉ g.1 := by
  obtain ⟨_, _, hO, hC, hU, hG, hF⟩ := h
  have b1 := hO.1
  have b2 := hC.1
  have b3 := hU.1
  have b4 := hG.1
  refine ⟨⟨fun q => ?_, fun q => ?_⟩, fun q => ?_, fun q => ?_, fun q => ?_, fun q => ?_, fun q => ?_, fun q => ?_⟩
  all_goals
    have := hF _ q
    omega
theorem zS_x {x : Nat} {g g' : zSh} (h : zEx x g g') (hx : ∀ q ∈ zrfs, q.1 ≠ x) (hS : zS g) : zS g' :=
  ⟨fun q hq => z_ob_ex h (hS.1 q hq), fun q hq => z_ar_ex h (hS.2.1 q hq), fun q hq => z_rf_ex h (zS_mem hS q hq) (hx q hq) (hS.2.2 q hq)⟩
theorem zO_x {x n : Nat} {g g' : zSh} (h : zEx x g g') (hx : x ≠ 14 ∧ (x < 100 ∨ 108 ≤ x)) (hS : zS g) (hO : zO g n) : zO g' n := by
  have hn := hO.1
  refine ⟨hO.1, fun o ho => ?_, fun o ho => ?_⟩
  · obtain ⟨q1, q2, q3, q4⟩ := hO.2.1 o ho
    exact ⟨z_ob_ex h q1, z_rf_ex h q1.1 (by omega) q2, z_ar_ex h q3, z_rf_ex h (zsa_14 hS).1 (by omega) q4⟩
  · rw [(h 14 (zsa_14 hS).1).2.2.2.2 (by omega)]; exact hO.2.2 o ho
theorem zC_x {x n : Nat} {g g' : zSh} (h : zEx x g g') (hx : x ≠ 15) (hS : zS g) (hC : zC g n) : zC g' n := by
  refine ⟨hC.1, fun c hc => ⟨z_ob_ex h (hC.2.1 c hc).1, z_rf_ex h (zsa_15 hS).1 (by omega) (hC.2.1 c hc).2⟩, fun c hc => ?_⟩
  rw [(h 15 (zsa_15 hS).1).2.2.2.2 (by omega)]; exact hC.2.2 c hc
theorem zU_x {x n : Nat} {g g' : zSh} (h : zEx x g g') (hx : x ≠ 19) (hS : zS g) (hU : zU g n) : zU g' n := by
  refine ⟨hU.1, fun c hc => ⟨z_ob_ex h (hU.2.1 c hc).1, z_rf_ex h (zsa_19 hS).1 (by omega) (hU.2.1 c hc).2⟩, fun c hc => ?_⟩
  rw [(h 19 (zsa_19 hS).1).2.2.2.2 (by omega)]; exact hU.2.2 c hc
theorem zG_x {x n : Nat} {g g' : zSh} (h : zEx x g g') (hx : x ≠ 20 ∧ x < 100) (hS : zS g) (hG : zG g n) : zG g' n ∧ ∀ m, m < n → g'.2.2.2.1 (300 + m) = g.2.2.2.1 (300 + m) ∧ g'.2.2.2.1 (500 + m) = g.2.2.2.1 (500 + m) := by
  have key : ∀ m, m < n → g'.2.2.2.1 (300 + m) = g.2.2.2.1 (300 + m) ∧ g'.2.2.2.1 (500 + m) = g.2.2.2.1 (500 + m) := by
    intro m hm
    obtain ⟨q1, q2, q3, q4, q5, q6, q7, q8⟩ := hG.2.1 m hm
    exact ⟨(h _ q6.1).2.2.2.1, (h _ q8.1).2.2.2.1⟩
  refine ⟨⟨hG.1, fun m hm => ?_, fun m hm => ?_⟩, key⟩
  · obtain ⟨q1, q2, q3, q4, q5, q6, q7, q8⟩ := hG.2.1 m hm
    rw [(key m hm).1, (key m hm).2]
    exact ⟨z_ob_ex h q1, z_rf_ex h (zsa_20 hS).1 (by omega) q2, z_rf_ex h q1.1 (by omega) q3, z_rf_ex h q1.1 (by omega) q4, z_rf_ex h q1.1 (by omega) q5, z_ar_ex h q6, z_ar_ex h q7, z_ar_ex h q8⟩
  · rw [(h 20 (zsa_20 hS).1).2.2.2.2 (by omega)]; exact hG.2.2 m hm
/-- one new object in a row -/
theorem zEx_one {g : zSh} {x k i a kd n : Nat} (hi : i ∉ g.1) : zEx x g (z_gr (z_add g i a kd n) x k i) := zEx_t (zEx_add hi) zEx_gr
theorem zSP_cable {g : zSh} {no nc nu nm a : Nat} (h : zSP g no nc nu nm) (hn : nc < 12) : zSP (z_gr (z_add g (120 + nc) a 1 0) 15 nc (120 + nc)) no (nc + 1) nu nm ∧ ∀ m, m < nm → (z_gr (z_add g (120 + nc) a 1 0) 15 nc (120 + nc)).2.2.2.1 (300 + m) = g.2.2.2.1 (300 + m) ∧ (z_gr (z_add g (120 + nc) a 1 0) 15 nc (120 + nc)).2.2.2.1 (500 + m) = g.2.2.2.1 (500 + m) := by
  have hf := (zSP_fr h).2.1
  obtain ⟨hS, hw, hO, hC, hU, hG, hF⟩ := h
  have e := zEx_one (x := 15) (k := nc) (a := a) (kd := 1) (n := 0) hf
  have hg := zG_x e (by decide) hS hG
  have ob : z_ob (z_gr (z_add g (120 + nc) a 1 0) 15 nc (120 + nc)) (120 + nc) 1 := z_ob_gr z_ob_at
  have r15 : ∀ c, (z_gr (z_add g (120 + nc) a 1 0) 15 nc (120 + nc)).2.2.2.2 15 c = if c = nc then 120 + nc else g.2.2.2.2 15 c := by
    intro c
    show z_upR _ 15 nc (120 + nc) 15 c = _
    unfold z_upR
    rw [if_pos rfl]
    by_cases q : c = nc
    · rw [if_pos q, if_pos q]
    · rw [if_neg q, if_neg q]
      show (if 15 = 120 + nc then 0 else g.2.2.2.2 15 c) = _
      rw [if_neg (by omega)]
  refine ⟨⟨zS_x e (by decide) hS, z_wf_gr (z_wf_add hw) ob.1, zO_x e (by decide) hS hO, ⟨by omega, fun c hc => ?_, fun c hc => ?_⟩, zU_x e (by decide) hS hU, hg.1, fun i hi => ?_⟩, hg.2⟩
  · by_cases q : c = nc
    · subst q; exact ⟨ob, by rw [r15, if_pos rfl], by omega⟩
    · obtain ⟨q1, q2, q3⟩ := hC.2.1 c (by omega)
      exact ⟨z_ob_ex e q1, by rw [r15, if_neg q]; exact q2, q3⟩
  · rw [r15, if_neg (by omega)]; exact hC.2.2 c (by omega)
  · rcases List.mem_append.mp (show i ∈ g.1 ++ [120 + nc] from hi) with q | q
    · have := hF i q; omega
    · have := List.mem_singleton.mp q; omega
theorem zSP_conf {g : zSh} {no nc nu nm a : Nat} (h : zSP g no nc nu nm) (hn : nu < 12) : zSP (z_gr (z_add g (140 + nu) a 7 0) 19 nu (140 + nu)) no nc (nu + 1) nm ∧ ∀ m, m < nm → (z_gr (z_add g (140 + nu) a 7 0) 19 nu (140 + nu)).2.2.2.1 (300 + m) = g.2.2.2.1 (300 + m) ∧ (z_gr (z_add g (140 + nu) a 7 0) 19 nu (140 + nu)).2.2.2.1 (500 + m) = g.2.2.2.1 (500 + m) := by
  have hf := (zSP_fr h).2.2.1
  obtain ⟨hS, hw, hO, hC, hU, hG, hF⟩ := h
  have e := zEx_one (x := 19) (k := nu) (a := a) (kd := 7) (n := 0) hf
  have hg := zG_x e (by decide) hS hG
  have ob : z_ob (z_gr (z_add g (140 + nu) a 7 0) 19 nu (140 + nu)) (140 + nu) 7 := z_ob_gr z_ob_at
  have r19 : ∀ c, (z_gr (z_add g (140 + nu) a 7 0) 19 nu (140 + nu)).2.2.2.2 19 c = if c = nu then 140 + nu else g.2.2.2.2 19 c := by
    intro c
    show z_upR _ 19 nu (140 + nu) 19 c = _
    unfold z_upR
    rw [if_pos rfl]
    by_cases q : c = nu
    · rw [if_pos q, if_pos q]
    · rw [if_neg q, if_neg q]
      show (if 19 = 140 + nu then 0 else g.2.2.2.2 19 c) = _
      rw [if_neg (by omega)]
  refine ⟨⟨zS_x e (by decide) hS, z_wf_gr (z_wf_add hw) ob.1, zO_x e (by decide) hS hO, zC_x e (by decide) hS hC, ⟨by omega, fun c hc => ?_, fun c hc => ?_⟩, hg.1, fun i hi => ?_⟩, hg.2⟩
  · by_cases q : c = nu
    · subst q; exact ⟨ob, by rw [r19, if_pos rfl], by omega⟩
    · obtain ⟨q1, q2, q3⟩ := hU.2.1 c (by omega)
      exact ⟨z_ob_ex e q1, by rw [r19, if_neg q]; exact q2, q3⟩
  · rw [r19, if_neg (by omega)]; exact hU.2.2 c (by omega)
  · rcases List.mem_append.mp (show i ∈ g.1 ++ [140 + nu] from hi) with q | q
    · have := hF i q; omega
    · have := List.mem_singleton.mp q; omega
theorem zSP_office {g : zSh} {no nc nu nm a b : Nat} (h : zSP g no nc nu nm) (hn : no < 8) : zSP (z_gr (z_gr (z_add (z_add g (100 + no) a 5 0) (110 + no) b 11 13) (100 + no) 0 (110 + no)) 14 no (100 + no)) (no + 1) nc nu nm ∧ ∀ m, m < nm → (z_gr (z_gr (z_add (z_add g (100 + no) a 5 0) (110 + no) b 11 13) (100 + no) 0 (110 + no)) 14 no (100 + no)).2.2.2.1 (300 + m) = g.2.2.2.1 (300 + m) ∧ (z_gr (z_gr (z_add (z_add g (100 + no) a 5 0) (110 + no) b 11 13) (100 + no) 0 (110 + no)) 14 no (100 + no)).2.2.2.1 (500 + m) = g.2.2.2.1 (500 + m) := by
  obtain ⟨f1, f2⟩ := (zSP_fr h).1
  obtain ⟨hS, hw, hO, hC, hU, hG, hF⟩ := h
  have f2' : 110 + no ∉ (z_add g (100 + no) a 5 0).1 := fun q => by
    rcases List.mem_append.mp q with z | z
    · exact f2 z
    · have := List.mem_singleton.mp z; omega
  have e1 : zEx 14 g (z_add (z_add g (100 + no) a 5 0) (110 + no) b 11 13) := zEx_t (zEx_add f1) (zEx_add f2')
  have e2 : zEx 14 g (z_gr (z_add (z_add g (100 + no) a 5 0) (110 + no) b 11 13) (100 + no) 0 (110 + no)) := by
    intro i hi
    obtain ⟨q1, q2, q3, q4, q5⟩ := e1 i hi
    refine ⟨q1, q2, q3, q4, fun hx k => ?_⟩
    show z_upR _ (100 + no) 0 (110 + no) i k = _
    unfold z_upR
    rw [if_neg (show i ≠ 100 + no from fun q => f1 (q ▸ hi))]
    exact q5 hx k
  have e : zEx 14 g (z_gr (z_gr (z_add (z_add g (100 + no) a 5 0) (110 + no) b 11 13) (100 + no) 0 (110 + no)) 14 no (100 + no)) := zEx_t e2 zEx_gr
  have hg := zG_x e (by decide) hS hG
  have o1 : z_ob (z_add g (100 + no) a 5 0) (100 + no) 5 := z_ob_at
  have ob : z_ob (z_gr (z_gr (z_add (z_add g (100 + no) a 5 0) (110 + no) b 11 13) (100 + no) 0 (110 + no)) 14 no (100 + no)) (100 + no) 5 := z_ob_gr (z_ob_gr (z_ob_ex (zEx_add (x := 14) f2') o1))
  have ar : z_ar (z_gr (z_gr (z_add (z_add g (100 + no) a 5 0) (110 + no) b 11 13) (100 + no) 0 (110 + no)) 14 no (100 + no)) (110 + no) 1 13 := z_ar_at (g := z_add g (100 + no) a 5 0) (a := b) (t := 1)
  have rf : z_rf (z_gr (z_gr (z_add (z_add g (100 + no) a 5 0) (110 + no) b 11 13) (100 + no) 0 (110 + no)) 14 no (100 + no)) (100 + no) 0 (110 + no) := by
    refine ⟨?_, by omega⟩
    show z_upR (z_upR _ (100 + no) 0 (110 + no)) 14 no (100 + no) (100 + no) 0 = _
    unfold z_upR
    rw [if_neg (by omega), if_pos rfl, if_pos rfl]
  have r14 : ∀ c, (z_gr (z_gr (z_add (z_add g (100 + no) a 5 0) (110 + no) b 11 13) (100 + no) 0 (110 + no)) 14 no (100 + no)).2.2.2.2 14 c = if c = no then 100 + no else g.2.2.2.2 14 c := by
    intro c
    show z_upR (z_upR _ (100 + no) 0 (110 + no)) 14 no (100 + no) 14 c = _
    unfold z_upR
    rw [if_pos rfl]
    by_cases q : c = no
    · rw [if_pos q, if_pos q]
    · rw [if_neg q, if_neg q, if_neg (by omega)]
      show (if 14 = 110 + no then 0 else if 14 = 100 + no then 0 else g.2.2.2.2 14 c) = _
      rw [if_neg (by omega), if_neg (by omega)]
  have wf : z_wf (z_gr (z_gr (z_add (z_add g (100 + no) a 5 0) (110 + no) b 11 13) (100 + no) 0 (110 + no)) 14 no (100 + no)) := by
    refine z_wf_gr (z_wf_gr (z_wf_add (z_wf_add hw)) ar.1) ?_
    exact ob.1
  refine ⟨⟨zS_x e (by decide) hS, wf, ⟨by omega, fun c hc => ?_, fun c hc => ?_⟩, zC_x e (by decide) hS hC, zU_x e (by decide) hS hU, hg.1, fun i hi => ?_⟩, hg.2⟩
  · by_cases q : c = no
    · subst q; exact ⟨ob, rf, ar, by rw [r14, if_pos rfl], by omega⟩
    · obtain ⟨q1, q2, q3, q4, q5⟩ := hO.2.1 c (by omega)
      exact ⟨z_ob_ex e q1, z_rf_ex e q1.1 (by omega) q2, z_ar_ex e q3, by rw [r14, if_neg q]; exact q4, q5⟩
  · rw [r14, if_neg (by omega)]; exact hO.2.2 c (by omega)
  · rcases List.mem_append.mp (show i ∈ (g.1 ++ [100 + no]) ++ [110 + no] from hi) with q | q
    · rcases List.mem_append.mp q with q | q
      · have := hF i q; omega
      · have := List.mem_singleton.mp q; omega
    · have := List.mem_singleton.mp q; omega
theorem z_wf_aa {g : zSh} {i j a kd n k : Nat} (h : z_wf g) : z_wf (zAa g i j a kd n k) := z_wf_gr (z_wf_add h) (List.mem_append_right _ (List.mem_singleton.mpr rfl))
theorem zSP_send {g : zSh} {no nc nu nm a b c d W RL : Nat} (h : zSP g no nc nu nm) (hn : nm < 60) : zSP (zSh5 g nm a b c d W RL) no nc nu (nm + 1) ∧ zln3 (zSh5 g nm a b c d W RL) nm = W ∧ zln5 (zSh5 g nm a b c d W RL) nm = RL ∧ ∀ m, m < nm → zln3 (zSh5 g nm a b c d W RL) m = zln3 g m ∧ zln5 (zSh5 g nm a b c d W RL) m = zln5 g m := by
  obtain ⟨_, _, _, f2, f3, f4, f5⟩ := zSP_fr h
  obtain ⟨hS, hw, hO, hC, hU, hG, hF⟩ := h
  obtain ⟨n1, n2, n3, n4, e⟩ := zG_new (a := a) (b := b) (c := c) (d := d) (W := W) (RL := RL) hS hG hn f2 f3 f4 f5
  have wf : z_wf (zSh5 g nm a b c d W RL) := by
    refine z_wf_gr (z_wf_aa (z_wf_aa (z_wf_aa (z_wf_add hw)))) ?_
    exact (n1.2.1 nm (by omega)).1.1
  refine ⟨⟨zS_x e (by decide) hS, wf, zO_x e (by decide) hS hO, zC_x e (by decide) hS hC, zU_x e (by decide) hS hU, n1, fun i hi => ?_⟩, n2, n3, fun m hm => ?_⟩
  · rcases List.mem_append.mp (show i ∈ (((g.1 ++ [200 + nm]) ++ [300 + nm]) ++ [400 + nm]) ++ [500 + nm] from hi) with q | q
    · rcases List.mem_append.mp q with q | q
      · rcases List.mem_append.mp q with q | q
        · rcases List.mem_append.mp q with q | q
          · have := hF i q; omega
          · have := List.mem_singleton.mp q; omega
        · have := List.mem_singleton.mp q; omega
      · have := List.mem_singleton.mp q; omega
    · have := List.mem_singleton.mp q; omega
  · obtain ⟨q1, q2, q3, q4, q5, q6, q7, q8⟩ := hG.2.1 m hm
    exact ⟨n4 _ q6.1, n4 _ q8.1⟩
