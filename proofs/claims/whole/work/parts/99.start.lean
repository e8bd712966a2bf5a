/-! the start: what the tables give of classes, arrays, exceptions; the relation of the first world -/
theorem inX0 : Cond.instantiable RX0 7 ∈ lw_good := z_gd 85 (by decide +kernel) (by decide +kernel)
theorem inX1 : Cond.instantiable RX1 6 ∈ lw_good := z_gd 511 (by decide +kernel) (by decide +kernel)
theorem inX2 : Cond.instantiable RX2 2 ∈ lw_good := z_gd 146 (by decide +kernel) (by decide +kernel)
theorem inX3 : Cond.instantiable RX3 13 ∈ lw_good := z_gd 770 (by decide +kernel) (by decide +kernel)
theorem inX4 : Cond.instantiable RX4 7 ∈ lw_good := z_gd 161 (by decide +kernel) (by decide +kernel)
theorem inX5 : Cond.instantiable RX5 4 ∈ lw_good := z_gd 470 (by decide +kernel) (by decide +kernel)
theorem inX6 : Cond.instantiable RX6 7 ∈ lw_good := z_gd 115 (by decide +kernel) (by decide +kernel)
theorem inX7 : Cond.instantiable RX7 5 ∈ lw_good := z_gd 193 (by decide +kernel) (by decide +kernel)
theorem inX8 : Cond.instantiable RX8 10 ∈ lw_good := z_gd 77 (by decide +kernel) (by decide +kernel)
theorem inX9 : Cond.instantiable RX9 49 ∈ lw_good := z_gd 1009 (by decide +kernel) (by decide +kernel)
theorem zst_K {s : State} {args : Array Value} (hts : ∀ w ∈ lw_good, w.before args s = true) (hN : ∀ w ∈ lw_nest, va_Nw w s) : ∃ (D : va_G) (cy : Nat → ClassId), va_K D vwCl (z_tys cy) s := by
  obtain ⟨c0, i0, k0⟩ := u_known (C := RX0) (T := TX0) (N := 7) hts iX0 (hts _ inX0)
  obtain ⟨c1, i1, k1⟩ := u_known (C := RX1) (T := TX1) (N := 6) hts iX1 (hts _ inX1)
  obtain ⟨c2, i2, k2⟩ := u_known (C := RX2) (T := TX2) (N := 2) hts iX2 (hts _ inX2)
  obtain ⟨c3, i3, k3⟩ := u_known (C := RX3) (T := TX3) (N := 13) hts iX3 (hts _ inX3)
  obtain ⟨c4, i4, k4⟩ := u_known (C := RX4) (T := TX4) (N := 7) hts iX4 (hts _ inX4)
  obtain ⟨c5, i5, k5⟩ := u_known (C := RX5) (T := TX5) (N := 4) hts iX5 (hts _ inX5)
  obtain ⟨c6, i6, k6⟩ := u_known (C := RX6) (T := TX6) (N := 7) hts iX6 (hts _ inX6)
  obtain ⟨c7, i7, k7⟩ := u_known (C := RX7) (T := TX7) (N := 5) hts iX7 (hts _ inX7)
  obtain ⟨c8, i8, k8⟩ := u_known (C := RX8) (T := TX8) (N := 10) hts iX8 (hts _ inX8)
  obtain ⟨c9, i9, k9⟩ := u_known (C := RX9) (T := TX9) (N := 49) hts iX9 (hts _ inX9)
  obtain ⟨y0, K0, m0, a0, b0, d0⟩ := Cond.arrayClass_spec (hts _ ac_int)
  obtain ⟨y1, K1, m1, a1, b1, d1⟩ := Cond.arrayClass_spec (hts _ ac_boolean)
  obtain ⟨y2, K2, m2, a2, b2, d2⟩ := Cond.arrayClass_spec (hts _ ac_long)
  obtain ⟨m3, y3, K3, a3, f3, b3, d3, h3⟩ := Cond.arrayOver_spec (hN _ ao_Cable)
  obtain ⟨m4, y4, K4, a4, f4, b4, d4, h4⟩ := Cond.arrayOver_spec (hN _ ao_Message)
  obtain ⟨m5, y5, K5, a5, f5, b5, d5, h5⟩ := Cond.arrayOver_spec (hN _ ao_Office)
  obtain ⟨m6, y6, K6, a6, f6, b6, d6, h6⟩ := Cond.arrayOver_spec (hN _ ao_Rules)
  refine ⟨(fun k => [c0, c1, c2, c3, c4, c5, c6, c7, c8, c9].getD k c0, fun k => [i0, i1, i2, i3, i4, i5, i6, i7, i8, i9].getD k i0), fun k => [y0, y1, y2, y3, y4, y5, y6].getD k y0, fun k q hq => ?_, fun k q hq => ?_⟩
  · match k, hq with
    | 0, hq => cases hq; exact k0
    | 1, hq => cases hq; exact k1
    | 2, hq => cases hq; exact k2
    | 3, hq => cases hq; exact k3
    | 4, hq => cases hq; exact k4
    | 5, hq => cases hq; exact k5
    | 6, hq => cases hq; exact k6
    | 7, hq => cases hq; exact k7
    | 8, hq => cases hq; exact k8
    | 9, hq => cases hq; exact k9
    | k + 10, hq => simp at hq
  · match k, hq with
    | 0, hq => cases hq; exact ⟨fun n z => ⟨(fun k h => by cases h), K0, b0, m0, d0⟩, a0⟩
    | 1, hq => cases hq; exact ⟨fun n z => ⟨(fun k h => by cases h), K1, b1, m1, d1⟩, a1⟩
    | 2, hq => cases hq; exact ⟨fun n z => ⟨(fun k h => by cases h), K2, b2, m2, d2⟩, a2⟩
    | 3, hq => cases hq; exact ⟨fun n z => ⟨(fun k h => by cases h), K3, b3, m3, d3⟩, K3, m3, b3, d3, a3, h3⟩
    | 4, hq => cases hq; exact ⟨fun n z => ⟨(fun k h => by cases h), K4, b4, m4, d4⟩, K4, m4, b4, d4, a4, h4⟩
    | 5, hq => cases hq; exact ⟨fun n z => ⟨(fun k h => by cases h), K5, b5, m5, d5⟩, K5, m5, b5, d5, a5, h5⟩
    | 6, hq => cases hq; exact ⟨fun n z => ⟨(fun k h => by cases h), K6, b6, m6, d6⟩, K6, m6, b6, d6, a6, h6⟩
    | k + 7, hq => simp [z_tys] at hq
theorem zst_str {s : State} {args : Array Value} {own : String} {k : Nat} {tx : String} (h : (Cond.stringRef own k tx).before args s = true) : ∃ a, vk_R own k tx a s := by
  have h0 : (Cond.stringRef own k tx).before #[] s = true := h
  have hcur : ∃ cur, s.vm.findClass own = some cur := by
    have h1 := h0
    simp only [Cond.before, Cond.holds, Cond.value] at h1
    cases hc : s.vm.findClass own with
    | none => simp [hc] at h1
    | some cur => exact ⟨cur, rfl⟩
  obtain ⟨cur, hcur⟩ := hcur
  obtain ⟨_, _, _, a, _, _, _, _, _, h6⟩ := Cond.stringRef_spec hcur h0
  exact ⟨a, h0, h6⟩
theorem zst_T {s : State} {args : Array Value} (ht : ∀ w ∈ tables_1, w.before args s = true) (hg : (Jvm.Cond.and given_1 narrow_1).before args s = true) : zTh s.heap.size s := by
  have hs := flat_of_before _ hg
  have hA : ∀ a : Nat, a < s.heap.size → ¬ z_A s.heap.size a := fun a h q => absurd h (Nat.not_lt.mpr q)
  have w0 := ht _ (List.mem_of_getElem? (i := 236) (a := Cond.laysStatic Bundle.tN "UNASSIGNED_STACK" Bundle.steD) (by decide +kernel))
  have w1 := ht _ (List.mem_of_getElem? (i := 238) (a := Cond.laysStatic Bundle.tN "SUPPRESSED_SENTINEL" Bundle.listD) (by decide +kernel))
  have w2 := ht _ (List.mem_of_getElem? (i := 8) (a := Cond.initialized Bundle.tN) (by decide +kernel))
  refine ⟨⟨vx_Zqof w0 w2 (hs _ (by decide +kernel)) hA, vx_Zqof w1 w2 (hs _ (by decide +kernel)) hA, fun w hw => ?_, fun own k tx hm => zst_str (ht _ hm)⟩, fun q hq => ?_⟩
  · have h1 := ht w (List.mem_filter.mp hw).1
    have h2 := (List.mem_filter.mp hw).2
    cases w <;> first | (exact absurd h2 Bool.false_ne_true) | (exact va_Nw.of rfl h1)
  · refine va_Nc.of (hs (Cond.not (.castable q.1 q.2)) ?_)
    simp only [zNc2, List.mem_cons, List.not_mem_nil, or_false] at hq
    rcases hq with rfl | rfl | rfl <;> decide +kernel
theorem zst_N {s : State} {args : Array Value} (ht : ∀ w ∈ tables_1, w.before args s = true) : ∀ w ∈ lw_nest, va_Nw w s := by
  intro w hw
  have h1 := ht w (List.mem_filter.mp hw).1
  have h2 := (List.mem_filter.mp hw).2
  cases w <;> first | (exact absurd h2 Bool.false_ne_true) | (exact va_Nw.of rfl h1) | skip
  case arrayOver t =>
    cases t <;> first | (exact absurd h2 Bool.false_ne_true) | (exact va_AO.of h1)
theorem zRel_0 {g : zSh} {σ ν : zIn} {ids nl bs : List Nat} {ob : List (Nat × Nat)} {ar rf : List (Nat × Nat × Nat)} {ad : Nat → Nat} (d : zDs ids ob ar rf nl bs ad ν g σ) (h1 : ∀ q ∈ zobs, q ∈ ob) (h2 : ∀ q ∈ zars, q ∈ ar) (h3 : ∀ q ∈ zrfs, q ∈ rf) (h4 : 14 ∈ nl ∧ 15 ∈ nl ∧ 19 ∈ nl ∧ 20 ∈ nl) (h5 : ∀ i, i < 59 → i + 1 ∈ ids) (h6 : ∀ i ∈ ids, i < 60)
    (hν : ∀ i k, ν i k = z_up (z_up (z_up (z_up (fun _ _ => 0) 18 2 15) 18 3 10) 35 0 15) 36 0 10 i k) : zRel g σ 0 0 0 0 0 0 0 0 := by
  obtain ⟨d1, d2, d3, d4, d5, d6, d7, d8⟩ := d
  have v : ∀ i k, 1 ≤ i → i < 60 → σ i k = z_up (z_up (z_up (z_up (fun _ _ => 0) 18 2 15) 18 3 10) 35 0 15) 36 0 10 i k := fun i k q1 q2 => by
    have := h5 (i - 1) (by omega)
    rw [show i - 1 + 1 = i by omega] at this
    rw [d8 i this k, hν]
  have z : ∀ i k, 1 ≤ i → i < 60 → i ≠ 18 → i ≠ 35 → i ≠ 36 → σ i k = 0 := fun i k q1 q2 q3 q4 q5 => by
    rw [v i k q1 q2, z_up_ne q5, z_up_ne q4, z_up_ne q3, z_up_ne q3]
  have zr : ∀ i, 1 ≤ i → i < 60 → i ≠ 18 → i ≠ 35 → i ≠ 36 → σ i = fun _ => 0 := fun i q1 q2 q3 q4 q5 => funext fun k => z i k q1 q2 q3 q4 q5
  have hS : zS g := ⟨fun q hq => d3 q (h1 q hq), fun q hq => d4 q (h2 q hq), fun q hq => d5 q (h3 q hq)⟩
  have n : ∀ k, ¬ k < 0 := Nat.not_lt_zero
  refine ⟨⟨hS, d1, ⟨by decide, fun o ho => absurd ho (n o), fun o _ => d6 14 h4.1 o⟩, ⟨by decide, fun o ho => absurd ho (n o), fun o _ => d6 15 h4.2.1 o⟩, ⟨by decide, fun o ho => absurd ho (n o), fun o _ => d6 19 h4.2.2.1 o⟩, ⟨by decide, fun o ho => absurd ho (n o), fun o _ => d6 20 h4.2.2.2 o⟩, fun i hi => Or.inl (h6 i (by rw [← d2]; exact hi))⟩, ?_, ?_, ?_, ⟨⟨z 1 8 (by omega) (by omega) (by omega) (by omega) (by omega), z 21 27 (by omega) (by omega) (by omega) (by omega) (by omega), by decide⟩, fun m hm => absurd hm (n m)⟩, fun m hm => absurd hm (n m), fun m hm => absurd hm (n m), fun o => z 28 o (by omega) (by omega) (by omega) (by omega) (by omega), fun m _ => z 56 m (by omega) (by omega) (by omega) (by omega) (by omega)⟩
  · refine ⟨⟨z 2 4 (by omega) (by omega) (by omega) (by omega) (by omega), z 21 0 (by omega) (by omega) (by omega) (by omega) (by omega), by decide, ?_, fun k hk => absurd hk (n k)⟩, ⟨z 2 5 (by omega) (by omega) (by omega) (by omega) (by omega), z 21 2 (by omega) (by omega) (by omega) (by omega) (by omega), by decide, ?_, ?_, fun k hk => absurd hk (n k), fun k hk => absurd hk (n k), fun j k hj => absurd hj (n j)⟩, z 11 1 (by omega) (by omega) (by omega) (by omega) (by omega), z 21 22 (by omega) (by omega) (by omega) (by omega) (by omega), by decide, ?_, fun k hk => absurd hk (n k)⟩
    · rw [zr 22 (by omega) (by omega) (by omega) (by omega) (by omega), zr 3 (by omega) (by omega) (by omega) (by omega) (by omega)]
    · rw [zr 23 (by omega) (by omega) (by omega) (by omega) (by omega), zr 4 (by omega) (by omega) (by omega) (by omega) (by omega)]
    · rw [zr 24 (by omega) (by omega) (by omega) (by omega) (by omega), zr 5 (by omega) (by omega) (by omega) (by omega) (by omega)]
    · rw [zr 38 (by omega) (by omega) (by omega) (by omega) (by omega), zr 12 (by omega) (by omega) (by omega) (by omega) (by omega)]
  · exact ⟨⟨z 13 4 (by omega) (by omega) (by omega) (by omega) (by omega), z 21 5 (by omega) (by omega) (by omega) (by omega) (by omega), by decide, z 13 5 (by omega) (by omega) (by omega) (by omega) (by omega), z 21 10 (by omega) (by omega) (by omega) (by omega) (by omega), by decide⟩, fun k hk => absurd hk (n k), fun o _ => ⟨z 25 o (by omega) (by omega) (by omega) (by omega) (by omega), z 26 o (by omega) (by omega) (by omega) (by omega) (by omega), z 28 o (by omega) (by omega) (by omega) (by omega) (by omega)⟩, fun k hk => absurd hk (n k), fun c _ => z 33 c (by omega) (by omega) (by omega) (by omega) (by omega)⟩
  · have a : σ 35 0 = nI 15 := by rw [v 35 0 (by omega) (by omega)]; rfl
    have b : σ 36 0 = nI 10 := by rw [v 36 0 (by omega) (by omega)]; rfl
    have c : σ 37 0 = nI 0 := z 37 0 (by omega) (by omega) (by omega) (by omega) (by omega)
    refine ⟨⟨z 1 7 (by omega) (by omega) (by omega) (by omega) (by omega), z 21 16 (by omega) (by omega) (by omega) (by omega) (by omega), by decide, z 1 9 (by omega) (by omega) (by omega) (by omega) (by omega), z 21 47 (by omega) (by omega) (by omega) (by omega) (by omega), by decide, by decide⟩, fun k hk => absurd hk (n k), ⟨?_, ?_, ?_, ?_⟩, fun k hk => ?_, fun o ho => absurd ho (n o), fun o _ => z 27 o (by omega) (by omega) (by omega) (by omega) (by omega)⟩
    · rw [v 18 0 (by omega) (by omega)]; rfl
    · rw [a, v 18 2 (by omega) (by omega)]; rfl
    · rw [b, v 18 3 (by omega) (by omega)]; rfl
    · rw [c, v 18 4 (by omega) (by omega)]; rfl
    · have e : k = 0 := by omega
      subst e
      unfold zf
      rw [a, b, c]
      decide
