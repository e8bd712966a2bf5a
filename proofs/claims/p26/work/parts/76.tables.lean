/-! the start: what the tables give of classes, arrays, exceptions -/
theorem inX0 : Cond.instantiable RX0 7 ∈ lw_good := z_gd 56 (by decide +kernel) (by decide +kernel)
theorem inX1 : Cond.instantiable RX1 6 ∈ lw_good := z_gd 653 (by decide +kernel) (by decide +kernel)
theorem inX2 : Cond.instantiable RX2 2 ∈ lw_good := z_gd 117 (by decide +kernel) (by decide +kernel)
theorem inX3 : Cond.instantiable RX3 13 ∈ lw_good := z_gd 778 (by decide +kernel) (by decide +kernel)
theorem inX4 : Cond.instantiable RX4 7 ∈ lw_good := z_gd 132 (by decide +kernel) (by decide +kernel)
theorem inX5 : Cond.instantiable RX5 4 ∈ lw_good := z_gd 621 (by decide +kernel) (by decide +kernel)
theorem inX6 : Cond.instantiable RX6 7 ∈ lw_good := z_gd 86 (by decide +kernel) (by decide +kernel)
theorem inX7 : Cond.instantiable RX7 5 ∈ lw_good := z_gd 164 (by decide +kernel) (by decide +kernel)
theorem inX8 : Cond.instantiable RX8 10 ∈ lw_good := z_gd 48 (by decide +kernel) (by decide +kernel)
theorem zst_K {s : State} {args : Array Value} (hts : ∀ w ∈ lw_good, w.before args s = true) (hN : ∀ w ∈ lw_nest, va_Nw w s) : ∃ (D : va_G) (cy : Nat → ClassId), va_K D vwCl (z_tys cy) s := by
  obtain ⟨c0, i0, k0⟩ := u_known (C := RX0) (T := TX0) (N := 7) hts iX0 (hts _ inX0)
  obtain ⟨c1, i1, k1⟩ := u_known (C := RX1) (T := TX1) (N := 6) hts iX1 (hts _ inX1)
  obtain ⟨c2, i2, k2⟩ := u_known (C := RX2) (T := TX2) (N := 2) hts iX2 (hts _ inX2)
  obtain ⟨c3, i3, k3⟩ := u_known (C := RX3) (T := TX3) (N := 13) hts iX3 (hts _ inX3)
  obtain ⟨c4, i4, k4⟩ := u_known (C := RX4) (T := TX4) (N := 7) hts iX4 (hts _ inX4)
  obtain ⟨c5, i5, k5⟩ := u_known (C := RX5) (T := TX5) (N := 4) hts iX5 (hts _ inX5)
  obtain ⟨c6, i6, k6⟩ := u_known (C := RX6) (T := TX6) (N := 7) hts iX6 (hts _ inX6)
  obtain ⟨c7, i7, k7⟩ := u_known (C := RX7) (T := TX7) (N := 5) hts iX7 (hts _ inX7)
  obtain ⟨c8, i8, k8⟩ := u_known (C := RX8) (T := TX8) (N := 10) hts iX8 (hts _ inX8)
  obtain ⟨y0, K0, m0, a0, b0, d0⟩ := Cond.arrayClass_spec (hts _ ac_int)
  obtain ⟨y1, K1, m1, a1, b1, d1⟩ := Cond.arrayClass_spec (hts _ ac_boolean)
  obtain ⟨y2, K2, m2, a2, b2, d2⟩ := Cond.arrayClass_spec (hts _ ac_int)
  obtain ⟨m3, y3, K3, a3, f3, b3, d3, h3⟩ := Cond.arrayOver_spec (hN _ ao_Cable)
  obtain ⟨m4, y4, K4, a4, f4, b4, d4, h4⟩ := Cond.arrayOver_spec (hN _ ao_Message)
  obtain ⟨m5, y5, K5, a5, f5, b5, d5, h5⟩ := Cond.arrayOver_spec (hN _ ao_Office)
  obtain ⟨m6, y6, K6, a6, f6, b6, d6, h6⟩ := Cond.arrayOver_spec (hN _ ao_Rules)
  refine ⟨(fun k => [c0, c1, c2, c3, c4, c5, c6, c7, c8].getD k c0, fun k => [i0, i1, i2, i3, i4, i5, i6, i7, i8].getD k i0), fun k => [y0, y1, y2, y3, y4, y5, y6].getD k y0, fun k q hq => ?_, fun k q hq => ?_⟩
  · match k, hq with
    | 0, hq => cases hq; exact k0
    | 1, hq => cases hq; exact k1
    | 2, hq => cases hq; exact k2
    | 3, hq => cases hq; exact k3
    | 4, hq => cases hq; exact k4
    | 5, hq => cases hq; exact k5
    | 6, hq => cases hq; exact k6
    | 7, hq => cases hq; exact k7
    | 8, hq => cases hq; exact k8
    | k + 9, hq => simp at hq
  · match k, hq with
    | 0, hq => cases hq; exact ⟨fun n z => ⟨(fun k h => by cases h), K0, b0, m0, d0⟩, a0⟩
    | 1, hq => cases hq; exact ⟨fun n z => ⟨(fun k h => by cases h), K1, b1, m1, d1⟩, a1⟩
    | 2, hq => cases hq; exact ⟨fun n z => ⟨(fun k h => by cases h), K2, b2, m2, d2⟩, a2⟩
    | 3, hq => cases hq; exact ⟨fun n z => ⟨(fun k h => by cases h), K3, b3, m3, d3⟩, K3, m3, b3, d3, a3, h3⟩
    | 4, hq => cases hq; exact ⟨fun n z => ⟨(fun k h => by cases h), K4, b4, m4, d4⟩, K4, m4, b4, d4, a4, h4⟩
    | 5, hq => cases hq; exact ⟨fun n z => ⟨(fun k h => by cases h), K5, b5, m5, d5⟩, K5, m5, b5, d5, a5, h5⟩
    | 6, hq => cases hq; exact ⟨fun n z => ⟨(fun k h => by cases h), K6, b6, m6, d6⟩, K6, m6, b6, d6, a6, h6⟩
    | k + 7, hq => simp [z_tys] at hq
theorem zst_str {s : State} {args : Array Value} {own : String} {k : Nat} {tx : String} (h : (Cond.stringRef own k tx).before args s = true) : ∃ a, vk_R own k tx a s := by
  have h0 : (Cond.stringRef own k tx).before #[] s = true := h
  have hcur : ∃ cur, s.vm.findClass own = some cur := by
    have h1 := h0
    simp only [Cond.before, Cond.holds, Cond.value] at h1
    cases hc : s.vm.findClass own with
    | none => simp [hc] at h1
    | some cur => exact ⟨cur, rfl⟩
  obtain ⟨cur, hcur⟩ := hcur
  obtain ⟨_, _, _, a, _, _, _, _, _, h6⟩ := Cond.stringRef_spec hcur h0
  exact ⟨a, h0, h6⟩
theorem zst_T {s : State} {args : Array Value} (ht : ∀ w ∈ tables_1, w.before args s = true) (hg : (Jvm.Cond.and given_1 narrow_1).before args s = true) : zTh (fun q => s.heap.size ≤ q) s := by
  have hs := flat_of_before _ hg
  have hA : ∀ a : Nat, a < s.heap.size → ¬ z_A (fun q => s.heap.size ≤ q) a := fun a h q => absurd h (Nat.not_lt.mpr q)
  have w0 := ht _ (List.mem_of_getElem? (i := 247) (a := Cond.laysStatic Bundle.tN "UNASSIGNED_STACK" Bundle.steD) (by decide +kernel))
  have w1 := ht _ (List.mem_of_getElem? (i := 249) (a := Cond.laysStatic Bundle.tN "SUPPRESSED_SENTINEL" Bundle.listD) (by decide +kernel))
  have w2 := ht _ (List.mem_of_getElem? (i := 7) (a := Cond.initialized Bundle.tN) (by decide +kernel))
  refine ⟨⟨vx_Zqof w0 w2 (hs _ (by decide +kernel)) hA, vx_Zqof w1 w2 (hs _ (by decide +kernel)) hA, fun w hw => ?_, fun own k tx hm => zst_str (ht _ hm)⟩, fun q hq => ?_⟩
  · have h1 := ht w (List.mem_filter.mp hw).1
    have h2 := (List.mem_filter.mp hw).2
    cases w <;> first | (exact absurd h2 Bool.false_ne_true) | (exact va_Nw.of rfl h1)
  · refine va_Nc.of (hs (Cond.not (.castable q.1 q.2)) ?_)
    simp only [zNc2, List.mem_cons, List.not_mem_nil, or_false] at hq
    rcases hq with rfl | rfl | rfl <;> decide +kernel
theorem zst_N {s : State} {args : Array Value} (ht : ∀ w ∈ tables_1, w.before args s = true) : ∀ w ∈ lw_nest, va_Nw w s := by
  intro w hw
  have h1 := ht w (List.mem_filter.mp hw).1
  have h2 := (List.mem_filter.mp hw).2
  cases w <;> first | (exact absurd h2 Bool.false_ne_true) | (exact va_Nw.of rfl h1) | skip
  case arrayOver t =>
    cases t <;> first | (exact absurd h2 Bool.false_ne_true) | (exact va_AO.of h1)