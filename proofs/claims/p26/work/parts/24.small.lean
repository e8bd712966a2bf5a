/-! contracts: small ones of all classes -/
set_option maxHeartbeats 4000000 in
set_option maxRecDepth 100000 in
theorem tJ9_min_7cf53 {l : Launch} {D : va_G} {cy : Nat → ClassId} {z0 : zRg} {g : zSh} {σ : zIn} (a b : Int32)  : z_Ct l D cy z0 MJ9_min_7cf53 [.int a, .int b] g σ (zI (if a ≤ b then a else b) g σ) := by
  refine z_ofF (by decide +kernel) (z_ci (z_ci z_c0)) (Nat.le_of_ble_eq_true rfl) ?_
  intro p e s m args below meth c X
  refine z_iload_n X dJ9_min_7cf53_0 rfl ?_
  refine z_iload_n X dJ9_min_7cf53_1 rfl ?_
  refine z_icmp_gt (tgt := 9) X dJ9_min_7cf53_2 (by decide) (fun c_2 => ?_) (fun c_2 => ?_)
  · skip
    refine z_iload_n X dJ9_min_7cf53_9 rfl ?_
    refine z_iret X (by decide) (by decide) rfl dJ9_min_7cf53_10 ?_
    first | exact zI_e (by rw [if_pos (Int32.not_lt.mp c_2)]) rfl rfl | exact zI_e (by rw [if_neg (Int32.not_le.mpr c_2)]) rfl rfl
  · skip
    refine z_iload_n X dJ9_min_7cf53_5 rfl ?_
    refine z_goto (tgt := 10) X dJ9_min_7cf53_6 (by decide) ?_
    refine z_iret X (by decide) (by decide) rfl dJ9_min_7cf53_10 ?_
    first | exact zI_e (by rw [if_pos (Int32.not_lt.mp c_2)]) rfl rfl | exact zI_e (by rw [if_neg (Int32.not_le.mpr c_2)]) rfl rfl

set_option maxHeartbeats 4000000 in
set_option maxRecDepth 100000 in
theorem tJ9_max_7cf53 {l : Launch} {D : va_G} {cy : Nat → ClassId} {z0 : zRg} {g : zSh} {σ : zIn} (a b : Int32)  : z_Ct l D cy z0 MJ9_max_7cf53 [.int a, .int b] g σ (zI (if b ≤ a then a else b) g σ) := by
  refine z_ofF (by decide +kernel) (z_ci (z_ci z_c0)) (Nat.le_of_ble_eq_true rfl) ?_
  intro p e s m args below meth c X
  refine z_iload_n X dJ9_max_7cf53_0 rfl ?_
  refine z_iload_n X dJ9_max_7cf53_1 rfl ?_
  refine z_icmp_lt (tgt := 9) X dJ9_max_7cf53_2 (by decide) (fun c_2 => ?_) (fun c_2 => ?_)
  · skip
    refine z_iload_n X dJ9_max_7cf53_9 rfl ?_
    refine z_iret X (by decide) (by decide) rfl dJ9_max_7cf53_10 ?_
    first | exact zI_e (by rw [if_pos (Int32.not_lt.mp c_2)]) rfl rfl | exact zI_e (by rw [if_neg (Int32.not_le.mpr c_2)]) rfl rfl
  · skip
    refine z_iload_n X dJ9_max_7cf53_5 rfl ?_
    refine z_goto (tgt := 10) X dJ9_max_7cf53_6 (by decide) ?_
    refine z_iret X (by decide) (by decide) rfl dJ9_max_7cf53_10 ?_
    first | exact zI_e (by rw [if_pos (Int32.not_lt.mp c_2)]) rfl rfl | exact zI_e (by rw [if_neg (Int32.not_le.mpr c_2)]) rfl rfl

theorem zmin_n {a b : Nat} (ha : a < 2 ^ 31) (hb : b < 2 ^ 31) : (if nI a ≤ nI b then nI a else nI b) = nI (min a b) := by
  by_cases h : a ≤ b
  · rw [if_pos ((nI_leI ha hb).mpr h), Nat.min_eq_left h]
  · rw [if_neg (fun h2 => h ((nI_leI ha hb).mp h2)), Nat.min_eq_right (by omega)]
theorem zmax_n {a b : Nat} (ha : a < 2 ^ 31) (hb : b < 2 ^ 31) : (if nI b ≤ nI a then nI a else nI b) = nI (max a b) := by
  by_cases h : b ≤ a
  · rw [if_pos ((nI_leI hb ha).mpr h), Nat.max_eq_left h]
  · rw [if_neg (fun h2 => h ((nI_leI hb ha).mp h2)), Nat.max_eq_right (by omega)]
theorem zrem {a : Int32} {n : Nat} (h0 : 0 < n) (hn : n ≤ 1000) (h1 : -1000000 ≤ a.toInt) (h2 : a.toInt ≤ 1000000) : (a - a / nI n * nI n).toInt = a.toInt.tmod n := by
  have en : (nI n).toInt = n := nI_toInt (by omega)
  have hd : (a / nI n).toInt = a.toInt.tdiv n := by
    have := Jvm.Kit.i32_div (x := a) (y := nI n) (by rw [en]; omega)
    rw [this, en]
  have hp : a.toInt = n * a.toInt.tdiv n + a.toInt.tmod n := (Int.mul_tdiv_add_tmod _ _).symm
  have ha : (a.toInt.tmod n).natAbs ≤ a.toInt.natAbs := by rw [Int.natAbs_tmod]; exact Nat.mod_le _ _
  have hc : (n : Int) * a.toInt.tdiv n = a.toInt - a.toInt.tmod n := by omega
  have hm : (a / nI n * nI n).toInt = a.toInt - a.toInt.tmod n := by
    rw [fb_mulI (by rw [hd, en, Int.mul_comm, hc]; omega) (by rw [hd, en, Int.mul_comm, hc]; omega), hd, en, Int.mul_comm, hc]
  rw [fb_subI (by rw [hm]; omega) (by rw [hm]; omega), hm]; omega
theorem zxors {a : Int32} {n : Nat} (hn : n ≤ 1000) : 0 ≤ a ^^^ nI n ↔ 0 ≤ a.toInt := by
  have e0 : (0 : Int32).toInt = 0 := by decide
  rw [Int32.le_iff_toInt_le, e0]
  have h1 : (a ^^^ nI n).toBitVec.msb = (a.toBitVec.msb ^^ (nI n).toBitVec.msb) := by rw [Int32.toBitVec_xor, BitVec.msb_xor]
  have h2 : (nI n).toBitVec.msb = false := by
    rw [BitVec.msb_eq_toInt]
    have : (nI n).toBitVec.toInt = n := nI_toInt (by omega)
    rw [this]; simp
  rw [h2, Bool.xor_false, BitVec.msb_eq_toInt, BitVec.msb_eq_toInt] at h1
  have h3 := decide_eq_decide.mp h1
  have h4 : (a ^^^ nI n).toBitVec.toInt = (a ^^^ nI n).toInt := rfl
  have h5 : a.toBitVec.toInt = a.toInt := rfl
  rw [h4, h5] at h3
  omega
theorem zofI {x : Int32} {k : Nat} (hk : k < 2 ^ 31) (h : x.toInt = k) : x = nI k := by rw [fa_eq, nI_toInt hk, h]
set_option maxHeartbeats 4000000 in
set_option maxRecDepth 100000 in
theorem tJ9_floorMod_7cf53 {l : Launch} {D : va_G} {cy : Nat → ClassId} {z0 : zRg} {g : zSh} {σ : zIn} (a : Int32) (n : Nat) (h0 : 0 < n) (hn : n ≤ 1000) (h1 : -1000000 ≤ a.toInt) (h2 : a.toInt ≤ 1000000) : z_Ct l D cy z0 MJ9_floorMod_7cf53 [.int a, .int (nI n)] g σ (zI (nI (a.toInt % n).toNat) g σ) := by
  refine z_ofF (by decide +kernel) (z_ci (z_ci z_c0)) (Nat.le_of_ble_eq_true rfl) ?_
  intro p e s m args below meth c X
  have hr := zrem h0 hn h1 h2
  have ht : (a.toInt.tmod n).natAbs < n := by rw [Int.natAbs_tmod]; exact Nat.mod_lt _ (by omega)
  have hm0 := Int.emod_nonneg a.toInt (show (n : Int) ≠ 0 by omega)
  have hm1 := Int.emod_lt_of_pos a.toInt (show (0 : Int) < n by omega)
  have hx := zxors (a := a) hn
  have en : (nI n).toInt = n := nI_toInt (by omega)
  refine z_iload_n X dJ9_floorMod_7cf53_0 rfl ?_
  refine z_iload_n X dJ9_floorMod_7cf53_1 rfl ?_
  refine z_irem X (by rw [zk0, nI_eq (by omega) (by decide)]; omega) dJ9_floorMod_7cf53_2 ?_
  refine z_istore_n X dJ9_floorMod_7cf53_3 (by decide) ?_
  refine z_iload_n X dJ9_floorMod_7cf53_4 rfl ?_
  refine z_iload_n X dJ9_floorMod_7cf53_5 rfl ?_
  refine z_ixor X dJ9_floorMod_7cf53_6 ?_
  refine z_if_ge (tgt := 18) X dJ9_floorMod_7cf53_7 (by decide) (fun c_7 => ?_) (fun c_7 => ?_)
  · skip
    refine z_iload_n X dJ9_floorMod_7cf53_18 rfl ?_
    refine z_iret X (by decide) (by decide) rfl dJ9_floorMod_7cf53_19 ?_
    first
      | (have hp := hx.mp c_7
         refine zI_e (zofI (by omega) ?_) rfl rfl
         rw [hr, Int.tmod_eq_emod_of_nonneg hp]; omega)
      | (have hp : ¬ 0 ≤ a.toInt := fun h => c_7 (hx.mpr h)
         have hz : a.toInt.tmod n = 0 := by rw [← hr, c_11]; decide
         refine zI_e (zofI (by omega) ?_) rfl rfl
         rw [hr, hz]
         have := Int.emod_eq_zero_of_dvd (Int.dvd_of_tmod_eq_zero hz)
         omega)
      | (have hp : ¬ 0 ≤ a.toInt := fun h => c_7 (hx.mpr h)
         have hz : a.toInt.tmod n ≠ 0 := by intro h; rw [← hr] at h; exact c_11 (by rw [fa_eq, h]; decide)
         have hs := Int.tmod_nonneg (n : Int) (show 0 ≤ -a.toInt by omega)
         rw [Int.neg_tmod] at hs
         refine zI_e (zofI (by omega) ?_) rfl rfl
         rw [fb_addI (by rw [hr, en]; omega) (by rw [hr, en]; omega), hr, en]
         have hq : a.toInt = n * a.toInt.tdiv n + a.toInt.tmod n := (Int.mul_tdiv_add_tmod _ _).symm
         have he : a.toInt % n = (a.toInt.tmod n + n) % n := by
           conv => lhs; rw [hq]
           rw [Int.add_comm, Int.add_mul_emod_self_left, Int.add_emod_right]
         rw [he, Int.emod_eq_of_lt (by omega) (by omega)]; omega)
  · skip
    refine z_iload_n X dJ9_floorMod_7cf53_10 rfl ?_
    refine z_if_eq (tgt := 18) X dJ9_floorMod_7cf53_11 (by decide) (fun c_11 => ?_) (fun c_11 => ?_)
    · skip
      refine z_iload_n X dJ9_floorMod_7cf53_18 rfl ?_
      refine z_iret X (by decide) (by decide) rfl dJ9_floorMod_7cf53_19 ?_
      first
        | (have hp := hx.mp c_7
           refine zI_e (zofI (by omega) ?_) rfl rfl
           rw [hr, Int.tmod_eq_emod_of_nonneg hp]; omega)
        | (have hp : ¬ 0 ≤ a.toInt := fun h => c_7 (hx.mpr h)
           have hz : a.toInt.tmod n = 0 := by rw [← hr, c_11]; decide
           refine zI_e (zofI (by omega) ?_) rfl rfl
           rw [hr, hz]
           have := Int.emod_eq_zero_of_dvd (Int.dvd_of_tmod_eq_zero hz)
           omega)
        | (have hp : ¬ 0 ≤ a.toInt := fun h => c_7 (hx.mpr h)
           have hz : a.toInt.tmod n ≠ 0 := by intro h; rw [← hr] at h; exact c_11 (by rw [fa_eq, h]; decide)
           have hs := Int.tmod_nonneg (n : Int) (show 0 ≤ -a.toInt by omega)
           rw [Int.neg_tmod] at hs
           refine zI_e (zofI (by omega) ?_) rfl rfl
           rw [fb_addI (by rw [hr, en]; omega) (by rw [hr, en]; omega), hr, en]
           have hq : a.toInt = n * a.toInt.tdiv n + a.toInt.tmod n := (Int.mul_tdiv_add_tmod _ _).symm
           have he : a.toInt % n = (a.toInt.tmod n + n) % n := by
             conv => lhs; rw [hq]
             rw [Int.add_comm, Int.add_mul_emod_self_left, Int.add_emod_right]
           rw [he, Int.emod_eq_of_lt (by omega) (by omega)]; omega)
    · skip
      refine z_iload_n X dJ9_floorMod_7cf53_14 rfl ?_
      refine z_iload_n X dJ9_floorMod_7cf53_15 rfl ?_
      refine z_iadd X dJ9_floorMod_7cf53_16 ?_
      refine z_iret X (by decide) (by decide) rfl dJ9_floorMod_7cf53_17 ?_
      first
        | (have hp := hx.mp c_7
           refine zI_e (zofI (by omega) ?_) rfl rfl
           rw [hr, Int.tmod_eq_emod_of_nonneg hp]; omega)
        | (have hp : ¬ 0 ≤ a.toInt := fun h => c_7 (hx.mpr h)
           have hz : a.toInt.tmod n = 0 := by rw [← hr, c_11]; decide
           refine zI_e (zofI (by omega) ?_) rfl rfl
           rw [hr, hz]
           have := Int.emod_eq_zero_of_dvd (Int.dvd_of_tmod_eq_zero hz)
           omega)
        | (have hp : ¬ 0 ≤ a.toInt := fun h => c_7 (hx.mpr h)
           have hz : a.toInt.tmod n ≠ 0 := by intro h; rw [← hr] at h; exact c_11 (by rw [fa_eq, h]; decide)
           have hs := Int.tmod_nonneg (n : Int) (show 0 ≤ -a.toInt by omega)
           rw [Int.neg_tmod] at hs
           refine zI_e (zofI (by omega) ?_) rfl rfl
           rw [fb_addI (by rw [hr, en]; omega) (by rw [hr, en]; omega), hr, en]
           have hq : a.toInt = n * a.toInt.tdiv n + a.toInt.tmod n := (Int.mul_tdiv_add_tmod _ _).symm
           have he : a.toInt % n = (a.toInt.tmod n + n) % n := by
             conv => lhs; rw [hq]
             rw [Int.add_comm, Int.add_mul_emod_self_left, Int.add_emod_right]
           rw [he, Int.emod_eq_of_lt (by omega) (by omega)]; omega)

theorem zfl_y {x : Int32} {n i : Nat} (f : Nat → Int32) : (if i < n then x else f i) = (if i < n then x else f i) := rfl
/-- row i of σ with its first n places x -/
def z_fill (σ : zIn) (i n : Nat) (x : Int32) : zIn := z_put σ i (fun k => if k < n then x else σ i k)
theorem z_fill_0 {σ : zIn} {i : Nat} {x : Int32} : z_fill σ i 0 x = σ := by
  funext i' k'; simp only [z_fill, z_put]; by_cases h : i' = i
  · subst h; simp
  · simp [h]
theorem z_fill_s {σ : zIn} {i n : Nat} {x : Int32} : z_up (z_fill σ i n x) i n x = z_fill σ i (n + 1) x := by
  funext i' k'; simp only [z_fill, z_put, z_up]; by_cases h : i' = i
  · subst h
    by_cases h2 : k' = n
    · subst h2; simp
    · have : (k' < n + 1) ↔ (k' < n) := by omega
      simp [h2, this]
  · simp [h]
set_option maxHeartbeats 4000000 in
set_option maxRecDepth 100000 in
theorem tJ7_fill_53178 {l : Launch} {D : va_G} {cy : Nat → ClassId} {z0 : zRg} {g : zSh} {σ : zIn} {i n9 : Nat} (x : Int32) (ha : z_ar g i 0 n9) (hn : n9 ≤ 1000) : z_Ct l D cy z0 MJ7_fill_53178 [.ref (g.2.1 i), .int x] g σ (zN g (z_fill σ i n9 x)) := by
  refine z_ofF (by decide +kernel) (z_cr (z_ci z_c0)) (Nat.le_of_ble_eq_true rfl) ?_
  intro p e s m args below meth c X
  have loop_5 : ∀ (n : Nat) (k : Nat) (hk : k ≤ n9) (hn : n9 - k < n), z_V p l e (zRm MJ7_fill_53178) s m args below meth c 4 D cy z0 0 0 (zQm MJ7_fill_53178 below D cy z0 (zN g (z_fill σ i n9 x)) args s) 5 [some (.ref (g.2.1 i)), some (.int x), some (.int (nI k)), some (.int (nI n9))] [] g (z_fill σ i k x) := by
    intro n
    induction n with
    | zero => intro k hk hn; exact absurd hn (Nat.not_lt_zero _)
    | succ n ih_5 =>
      intro k hk hn
      refine z_iload_n X dJ7_fill_53178_5 rfl ?_
      refine z_iload_n X dJ7_fill_53178_6 rfl ?_
      refine z_icmp_ge (tgt := 20) X dJ7_fill_53178_7 (by decide) (fun c_7 => ?_) (fun c_7 => ?_)
      · skip
        try simp (disch := omega) only [zk0, nI_leI, nI_ltI, nI_eq, zbk_notn, zbk_not, zbk_n0, zbk_0, zb_0, zb_n0, zb_not, zb_notn, Bool.not_eq_false, Bool.not_eq_true, Bool.not_eq_true', Bool.not_eq_false', decide_eq_true_eq, decide_eq_false_iff_not, Classical.not_not] at c_7
        refine z_vret X (by decide) (by decide) rfl dJ7_fill_53178_20 ?_
        have e : k = n9 := by omega
        subst e
        exact ⟨rfl, rfl, rfl⟩
      · skip
        try simp (disch := omega) only [zk0, nI_leI, nI_ltI, nI_eq, zbk_notn, zbk_not, zbk_n0, zbk_0, zb_0, zb_n0, zb_not, zb_notn, Bool.not_eq_false, Bool.not_eq_true, Bool.not_eq_true', Bool.not_eq_false', decide_eq_true_eq, decide_eq_false_iff_not, Classical.not_not] at c_7
        refine z_aload_n X dJ7_fill_53178_10 rfl ?_
        refine z_iload_n X dJ7_fill_53178_11 rfl ?_
        refine z_iload_n X dJ7_fill_53178_12 rfl ?_
        refine z_iastN X (ha) (by omega) (by omega) dJ7_fill_53178_13 ?_
        refine z_inc1 X dJ7_fill_53178_14 rfl (by decide) ?_
        refine z_goto (tgt := 5) X dJ7_fill_53178_17 (by decide) ?_
        rw [z_fill_s]
        exact ih_5 (k + 1) (by omega) (by omega)
  refine z_iconst (v := nI 0) X (by decide) dJ7_fill_53178_0 ?_
  refine z_istore_n X dJ7_fill_53178_1 (by decide) ?_
  refine z_aload_n X dJ7_fill_53178_2 rfl ?_
  refine z_alen X (t := 0) (by decide) (ha) dJ7_fill_53178_3 ?_
  refine z_istore_n X dJ7_fill_53178_4 (by decide) ?_
  have h5 := loop_5 (n9 - 0 + 1) 0 (by omega) (by omega)
  rw [z_fill_0] at h5
  exact h5

set_option maxHeartbeats 4000000 in
set_option maxRecDepth 100000 in
theorem tX1_touches {l : Launch} {D : va_G} {cy : Nat → ClassId} {z0 : zRg} {g : zSh} {σ : zIn} {i : Nat} (o : Int32) (ho : z_ob g i 1) : z_Ct l D cy z0 MX1_touches [.ref (g.2.1 i), .int o] g σ (zI (zb (decide (o = σ i 0 ∨ o = σ i 1))) g σ) := by
  refine z_ofM (by decide) (z_cr (z_ci z_c0)) (Nat.le_of_ble_eq_true rfl) ?_
  intro p e s m args below meth c X
  refine z_iload_n X dX1_touches_0 rfl ?_
  refine z_aload_n X dX1_touches_1 rfl ?_
  refine z_geti X fX1_7 (ho) rfl dX1_touches_2 ?_
  refine z_icmp_eq (tgt := 16) X dX1_touches_5 (by decide) (fun c_5 => ?_) (fun c_5 => ?_)
  · skip
    refine z_iconst (v := nI 1) X (by decide) dX1_touches_16 ?_
    refine z_goto (tgt := 21) X dX1_touches_17 (by decide) ?_
    refine z_zret X (by decide) (by decide) rfl (by first | exact Or.inl rfl | exact Or.inr rfl | exact zb_01 _ | assumption) dX1_touches_21 ?_
    exact zI_e (by simp_all [zb, zk0, zk1]) rfl rfl
  · skip
    refine z_iload_n X dX1_touches_8 rfl ?_
    refine z_aload_n X dX1_touches_9 rfl ?_
    refine z_geti X fX1_13 (ho) rfl dX1_touches_10 ?_
    refine z_icmp_ne (tgt := 20) X dX1_touches_13 (by decide) (fun c_13 => ?_) (fun c_13 => ?_)
    · skip
      refine z_iconst (v := nI 0) X (by decide) dX1_touches_20 ?_
      refine z_zret X (by decide) (by decide) rfl (by first | exact Or.inl rfl | exact Or.inr rfl | exact zb_01 _ | assumption) dX1_touches_21 ?_
      exact zI_e (by simp_all [zb, zk0, zk1]) rfl rfl
    · skip
      refine z_iconst (v := nI 1) X (by decide) dX1_touches_16 ?_
      refine z_goto (tgt := 21) X dX1_touches_17 (by decide) ?_
      refine z_zret X (by decide) (by decide) rfl (by first | exact Or.inl rfl | exact Or.inr rfl | exact zb_01 _ | assumption) dX1_touches_21 ?_
      exact zI_e (by simp_all [zb, zk0, zk1]) rfl rfl

set_option maxHeartbeats 4000000 in
set_option maxRecDepth 100000 in
theorem tX1_otherEnd {l : Launch} {D : va_G} {cy : Nat → ClassId} {z0 : zRg} {g : zSh} {σ : zIn} {i : Nat} (o : Int32) (ho : z_ob g i 1) : z_Ct l D cy z0 MX1_otherEnd [.ref (g.2.1 i), .int o] g σ (zI (if o = σ i 0 then σ i 1 else σ i 0) g σ) := by
  refine z_ofM (by decide) (z_cr (z_ci z_c0)) (Nat.le_of_ble_eq_true rfl) ?_
  intro p e s m args below meth c X
  refine z_iload_n X dX1_otherEnd_0 rfl ?_
  refine z_aload_n X dX1_otherEnd_1 rfl ?_
  refine z_geti X fX1_7 (ho) rfl dX1_otherEnd_2 ?_
  refine z_icmp_ne (tgt := 15) X dX1_otherEnd_5 (by decide) (fun c_5 => ?_) (fun c_5 => ?_)
  · skip
    refine z_aload_n X dX1_otherEnd_15 rfl ?_
    refine z_geti X fX1_7 (ho) rfl dX1_otherEnd_16 ?_
    refine z_iret X (by decide) (by decide) rfl dX1_otherEnd_19 ?_
    first | exact zI_e (by rw [if_neg c_5]) rfl rfl | exact zI_e (by rw [if_pos c_5]) rfl rfl
  · skip
    refine z_aload_n X dX1_otherEnd_8 rfl ?_
    refine z_geti X fX1_13 (ho) rfl dX1_otherEnd_9 ?_
    refine z_goto (tgt := 19) X dX1_otherEnd_12 (by decide) ?_
    refine z_iret X (by decide) (by decide) rfl dX1_otherEnd_19 ?_
    first | exact zI_e (by rw [if_neg c_5]) rfl rfl | exact zI_e (by rw [if_pos c_5]) rfl rfl

set_option maxHeartbeats 4000000 in
set_option maxRecDepth 100000 in
theorem tX5_reserveRules {l : Launch} {D : va_G} {cy : Nat → ClassId} {z0 : zRg} {g : zSh} {σ : zIn} {no o : Nat} (k : Nat) (hO : zO g no) (ho : o < no) (hk : k < 13) : z_Ct l D cy z0 MX5_reserveRules [.ref (g.2.1 (100 + o)), .int (nI k)] g σ (zN g (z_up σ (110 + o) k 1)) := by
  have hF := hO.2.1 o ho
  refine z_ofM (by decide) (z_cr (z_ci z_c0)) (Nat.le_of_ble_eq_true rfl) ?_
  intro p e s m args below meth c X
  refine z_iload_n X dX5_reserveRules_0 rfl ?_
  refine z_iconst (v := nI 0) X (by decide) dX5_reserveRules_1 ?_
  refine z_aload_n X dX5_reserveRules_2 rfl ?_
  refine z_getr2 X fX5_9 (hF.1) (hF.2.1) rfl dX5_reserveRules_3 ?_
  refine z_alen X (t := 1) (by decide) (hF.2.2.1) dX5_reserveRules_6 ?_
  refine z_iconst (v := nI 1) X (by decide) dX5_reserveRules_7 ?_
  refine z_isub X dX5_reserveRules_8 ?_
  refine z_runS X kX5_26 (tOut (nI k) (by omega)) rfl rfl (Nat.le_of_ble_eq_true rfl) ⟨by decide, by decide⟩ ⟨by decide, by decide⟩ dX5_reserveRules_9 ?_
  rintro _ g1 s1 ⟨rfl, h8, h9⟩
  replace h8 := h8.symm
  subst h8
  replace h9 := h9.symm
  subst h9
  rw [zin_nI hk (by omega)]
  refine z_if_ne (tgt := 22) X dX5_reserveRules_12 (by decide) (fun c_12 => ?_) (fun c_12 => ?_)
  · exact absurd rfl c_12
  · skip
    try simp (disch := omega) only [zk0, nI_leI, nI_ltI, nI_eq, zbk_notn, zbk_not, zbk_n0, zbk_0, zb_0, zb_n0, zb_not, zb_notn, Bool.not_eq_false, Bool.not_eq_true, Bool.not_eq_true', Bool.not_eq_false', decide_eq_true_eq, decide_eq_false_iff_not, Classical.not_not] at c_12
    refine z_aload_n X dX5_reserveRules_15 rfl ?_
    refine z_getr2 X fX5_9 (hF.1) (hF.2.1) rfl dX5_reserveRules_16 ?_
    refine z_iload_n X dX5_reserveRules_19 rfl ?_
    refine z_iconst (v := nI 1) X (by decide) dX5_reserveRules_20 ?_
    refine z_zastN X (hF.2.2.1) (by omega) (by omega) (by first | exact Or.inl rfl | exact Or.inr rfl | exact zb_01 _ | assumption) dX5_reserveRules_21 ?_
    refine z_vret X (by decide) (by decide) rfl dX5_reserveRules_22 ?_
    exact ⟨rfl, rfl, rfl⟩

set_option maxHeartbeats 4000000 in
set_option maxRecDepth 100000 in
theorem tX5_reserves {l : Launch} {D : va_G} {cy : Nat → ClassId} {z0 : zRg} {g : zSh} {σ : zIn} {no o : Nat} (k : Nat) (hO : zO g no) (ho : o < no) (hk : k < 13) : z_Ct l D cy z0 MX5_reserves [.ref (g.2.1 (100 + o)), .int (nI k)] g σ (zI (zb (decide (¬ σ (110 + o) k = 0))) g σ) := by
  have hF := hO.2.1 o ho
  refine z_ofM (by decide) (z_cr (z_ci z_c0)) (Nat.le_of_ble_eq_true rfl) ?_
  intro p e s m args below meth c X
  refine z_iload_n X dX5_reserves_0 rfl ?_
  refine z_iconst (v := nI 0) X (by decide) dX5_reserves_1 ?_
  refine z_aload_n X dX5_reserves_2 rfl ?_
  refine z_getr2 X fX5_9 (hF.1) (hF.2.1) rfl dX5_reserves_3 ?_
  refine z_alen X (t := 1) (by decide) (hF.2.2.1) dX5_reserves_6 ?_
  refine z_iconst (v := nI 1) X (by decide) dX5_reserves_7 ?_
  refine z_isub X dX5_reserves_8 ?_
  refine z_runS X kX5_26 (tOut (nI k) (by omega)) rfl rfl (Nat.le_of_ble_eq_true rfl) ⟨by decide, by decide⟩ ⟨by decide, by decide⟩ dX5_reserves_9 ?_
  rintro _ g1 s1 ⟨rfl, h8, h9⟩
  replace h8 := h8.symm
  subst h8
  replace h9 := h9.symm
  subst h9
  rw [zin_nI hk (by omega)]
  refine z_if_ne (tgt := 28) X dX5_reserves_12 (by decide) (fun c_12 => ?_) (fun c_12 => ?_)
  · exact absurd rfl c_12
  · skip
    try simp (disch := omega) only [zk0, nI_leI, nI_ltI, nI_eq, zbk_notn, zbk_not, zbk_n0, zbk_0, zb_0, zb_n0, zb_not, zb_notn, Bool.not_eq_false, Bool.not_eq_true, Bool.not_eq_true', Bool.not_eq_false', decide_eq_true_eq, decide_eq_false_iff_not, Classical.not_not] at c_12
    refine z_aload_n X dX5_reserves_15 rfl ?_
    refine z_getr2 X fX5_9 (hF.1) (hF.2.1) rfl dX5_reserves_16 ?_
    refine z_iload_n X dX5_reserves_19 rfl ?_
    refine z_zaldN X (hF.2.2.1) (by omega) (by omega) dX5_reserves_20 ?_
    refine z_if_eq (tgt := 28) X dX5_reserves_21 (by decide) (fun c_21 => ?_) (fun c_21 => ?_)
    · skip
      refine z_iconst (v := nI 0) X (by decide) dX5_reserves_28 ?_
      refine z_zret X (by decide) (by decide) rfl (by first | exact Or.inl rfl | exact Or.inr rfl | exact zb_01 _ | assumption) dX5_reserves_29 ?_
      first | exact zI_e (by rw [decide_eq_true c_21]; rfl) rfl rfl | exact zI_e (by rw [decide_eq_false (fun h => h c_21)]; rfl) rfl rfl
    · skip
      refine z_iconst (v := nI 1) X (by decide) dX5_reserves_24 ?_
      refine z_goto (tgt := 29) X dX5_reserves_25 (by decide) ?_
      refine z_zret X (by decide) (by decide) rfl (by first | exact Or.inl rfl | exact Or.inr rfl | exact zb_01 _ | assumption) dX5_reserves_29 ?_
      first | exact zI_e (by rw [decide_eq_true c_21]; rfl) rfl rfl | exact zI_e (by rw [decide_eq_false (fun h => h c_21)]; rfl) rfl rfl

def zkt (k : Int32) : Int32 := if k = 2 then 4 else if k = 1 then 2 else 1
set_option maxHeartbeats 4000000 in
set_option maxRecDepth 100000 in
theorem tX3_priceAt {l : Launch} {D : va_G} {cy : Nat → ClassId} {z0 : zRg} {g : zSh} {σ : zIn} {nm m9 : Nat} (r : Int32) (ho : z_ob g (200 + m9) 3) : z_Ct l D cy z0 MX3_priceAt [.ref (g.2.1 (200 + m9)), .int r] g σ (zI (r * σ (200 + m9) 3 * zkt (σ (200 + m9) 2)) g σ) := by
  refine z_ofM (by decide) (z_cr (z_ci z_c0)) (Nat.le_of_ble_eq_true rfl) ?_
  intro p e s m args below meth c X
  refine z_aload_n X dX3_priceAt_0 rfl ?_
  refine z_geti X fX3_18 (ho) rfl dX3_priceAt_1 ?_
  refine z_iconst (v := 2) X (by decide) dX3_priceAt_4 ?_
  refine z_icmp_ne (tgt := 12) X dX3_priceAt_5 (by decide) (fun c_5 => ?_) (fun c_5 => ?_)
  · skip
    refine z_aload_n X dX3_priceAt_12 rfl ?_
    refine z_geti X fX3_18 (ho) rfl dX3_priceAt_13 ?_
    refine z_iconst (v := 1) X (by decide) dX3_priceAt_16 ?_
    refine z_icmp_ne (tgt := 24) X dX3_priceAt_17 (by decide) (fun c_17 => ?_) (fun c_17 => ?_)
    · skip
      refine z_iconst (v := 1) X (by decide) dX3_priceAt_24 ?_
      refine z_istore_n X dX3_priceAt_25 (by decide) ?_
      refine z_iload_n X dX3_priceAt_26 rfl ?_
      refine z_aload_n X dX3_priceAt_27 rfl ?_
      refine z_geti X fX3_26 (ho) rfl dX3_priceAt_28 ?_
      refine z_imul X dX3_priceAt_31 ?_
      refine z_iload_n X dX3_priceAt_32 rfl ?_
      refine z_imul X dX3_priceAt_33 ?_
      refine z_iret X (by decide) (by decide) rfl dX3_priceAt_34 ?_
      exact zI_e (by unfold zkt; simp_all) rfl rfl
    · skip
      refine z_iconst (v := 2) X (by decide) dX3_priceAt_20 ?_
      refine z_goto (tgt := 25) X dX3_priceAt_21 (by decide) ?_
      refine z_istore_n X dX3_priceAt_25 (by decide) ?_
      refine z_iload_n X dX3_priceAt_26 rfl ?_
      refine z_aload_n X dX3_priceAt_27 rfl ?_
      refine z_geti X fX3_26 (ho) rfl dX3_priceAt_28 ?_
      refine z_imul X dX3_priceAt_31 ?_
      refine z_iload_n X dX3_priceAt_32 rfl ?_
      refine z_imul X dX3_priceAt_33 ?_
      refine z_iret X (by decide) (by decide) rfl dX3_priceAt_34 ?_
      exact zI_e (by unfold zkt; simp_all) rfl rfl
  · skip
    refine z_iconst (v := 4) X (by decide) dX3_priceAt_8 ?_
    refine z_goto (tgt := 25) X dX3_priceAt_9 (by decide) ?_
    refine z_istore_n X dX3_priceAt_25 (by decide) ?_
    refine z_iload_n X dX3_priceAt_26 rfl ?_
    refine z_aload_n X dX3_priceAt_27 rfl ?_
    refine z_geti X fX3_26 (ho) rfl dX3_priceAt_28 ?_
    refine z_imul X dX3_priceAt_31 ?_
    refine z_iload_n X dX3_priceAt_32 rfl ?_
    refine z_imul X dX3_priceAt_33 ?_
    refine z_iret X (by decide) (by decide) rfl dX3_priceAt_34 ?_
    exact zI_e (by unfold zkt; simp_all) rfl rfl

set_option maxHeartbeats 4000000 in
set_option maxRecDepth 100000 in
theorem tX3_hasWord {l : Launch} {D : va_G} {cy : Nat → ClassId} {z0 : zRg} {g : zSh} {σ : zIn} {nm m9 : Nat} (i : Int32) (hG : zG g nm) (hm : m9 < nm) (hL : g.2.2.2.1 (300 + m9) ≤ 24) : z_Ct l D cy z0 MX3_hasWord [.ref (g.2.1 (200 + m9)), .int i] g σ (zI (zb (zin i (g.2.2.2.1 (300 + m9)))) g σ) := by
  have hM := hG.2.1 m9 hm
  refine z_ofM (by decide) (z_cr (z_ci z_c0)) (Nat.le_of_ble_eq_true rfl) ?_
  intro p e s m args below meth c X
  refine z_iload_n X dX3_hasWord_0 rfl ?_
  refine z_iconst (v := nI 0) X (by decide) dX3_hasWord_1 ?_
  refine z_aload_n X dX3_hasWord_2 rfl ?_
  refine z_getr2 X fX3_38 (hM.1) (hM.2.2.1) rfl dX3_hasWord_3 ?_
  refine z_alen X (t := 0) (by decide) (hM.2.2.2.2.2.1) dX3_hasWord_6 ?_
  refine z_iconst (v := nI 1) X (by decide) dX3_hasWord_7 ?_
  refine z_isub X dX3_hasWord_8 ?_
  refine z_runS X kX3_76 (tOut i (by omega)) rfl rfl (Nat.le_of_ble_eq_true rfl) ⟨by decide, by decide⟩ ⟨by decide, by decide⟩ dX3_hasWord_9 ?_
  rintro _ g1 s1 ⟨rfl, h8, h9⟩
  replace h8 := h8.symm
  subst h8
  replace h9 := h9.symm
  subst h9
  refine z_if_ne (tgt := 28) X dX3_hasWord_12 (by decide) (fun c_12 => ?_) (fun c_12 => ?_)
  · skip
    try simp (disch := omega) only [zk0, nI_leI, nI_ltI, nI_eq, zbk_notn, zbk_not, zbk_n0, zbk_0, zb_0, zb_n0, zb_not, zb_notn, Bool.not_eq_false, Bool.not_eq_true, Bool.not_eq_true', Bool.not_eq_false', decide_eq_true_eq, decide_eq_false_iff_not, Classical.not_not] at c_12
    refine z_iconst (v := nI 0) X (by decide) dX3_hasWord_28 ?_
    refine z_zret X (by decide) (by decide) rfl (by first | exact Or.inl rfl | exact Or.inr rfl | exact zb_01 _ | assumption) dX3_hasWord_29 ?_
    first
      | exact zI_e (by rw [c_12]; rfl) rfl rfl
      | (exfalso
         obtain ⟨j, hj, rfl⟩ := zin_t c_12 (by omega)
         rw [nI_leI (by omega) (by omega)] at c_21
         omega)
  · skip
    try simp (disch := omega) only [zk0, nI_leI, nI_ltI, nI_eq, zbk_notn, zbk_not, zbk_n0, zbk_0, zb_0, zb_n0, zb_not, zb_notn, Bool.not_eq_false, Bool.not_eq_true, Bool.not_eq_true', Bool.not_eq_false', decide_eq_true_eq, decide_eq_false_iff_not, Classical.not_not] at c_12
    refine z_iload_n X dX3_hasWord_15 rfl ?_
    refine z_aload_n X dX3_hasWord_16 rfl ?_
    refine z_getr2 X fX3_42 (hM.1) (hM.2.2.2.1) rfl dX3_hasWord_17 ?_
    refine z_alen X (t := 0) (by decide) (hM.2.2.2.2.2.2.1) dX3_hasWord_20 ?_
    refine z_icmp_ge (tgt := 28) X dX3_hasWord_21 (by decide) (fun c_21 => ?_) (fun c_21 => ?_)
    · skip
      try simp (disch := omega) only [zk0, nI_leI, nI_ltI, nI_eq, zbk_notn, zbk_not, zbk_n0, zbk_0, zb_0, zb_n0, zb_not, zb_notn, Bool.not_eq_false, Bool.not_eq_true, Bool.not_eq_true', Bool.not_eq_false', decide_eq_true_eq, decide_eq_false_iff_not, Classical.not_not] at c_21
      refine z_iconst (v := nI 0) X (by decide) dX3_hasWord_28 ?_
      refine z_zret X (by decide) (by decide) rfl (by first | exact Or.inl rfl | exact Or.inr rfl | exact zb_01 _ | assumption) dX3_hasWord_29 ?_
      first
        | exact zI_e (by rw [c_12]; rfl) rfl rfl
        | (exfalso
           obtain ⟨j, hj, rfl⟩ := zin_t c_12 (by omega)
           rw [nI_leI (by omega) (by omega)] at c_21
           omega)
    · skip
      try simp (disch := omega) only [zk0, nI_leI, nI_ltI, nI_eq, zbk_notn, zbk_not, zbk_n0, zbk_0, zb_0, zb_n0, zb_not, zb_notn, Bool.not_eq_false, Bool.not_eq_true, Bool.not_eq_true', Bool.not_eq_false', decide_eq_true_eq, decide_eq_false_iff_not, Classical.not_not] at c_21
      refine z_iconst (v := nI 1) X (by decide) dX3_hasWord_24 ?_
      refine z_goto (tgt := 29) X dX3_hasWord_25 (by decide) ?_
      refine z_zret X (by decide) (by decide) rfl (by first | exact Or.inl rfl | exact Or.inr rfl | exact zb_01 _ | assumption) dX3_hasWord_29 ?_
      first
        | exact zI_e (by rw [c_12]; rfl) rfl rfl
        | (exfalso
           obtain ⟨j, hj, rfl⟩ := zin_t c_12 (by omega)
           rw [nI_leI (by omega) (by omega)] at c_21
           omega)

set_option maxHeartbeats 4000000 in
set_option maxRecDepth 100000 in
theorem tX3_wordSent {l : Launch} {D : va_G} {cy : Nat → ClassId} {z0 : zRg} {g : zSh} {σ : zIn} {nm m9 : Nat} (k : Nat) (hG : zG g nm) (hm : m9 < nm) (hL : g.2.2.2.1 (300 + m9) ≤ 24) (hk : k < g.2.2.2.1 (300 + m9)) : z_Ct l D cy z0 MX3_wordSent [.ref (g.2.1 (200 + m9)), .int (nI k)] g σ (zI (σ (300 + m9) k) g σ) := by
  have hM := hG.2.1 m9 hm
  refine z_ofM (by decide) (z_cr (z_ci z_c0)) (Nat.le_of_ble_eq_true rfl) ?_
  intro p e s m args below meth c X
  refine z_aload_n X dX3_wordSent_0 rfl ?_
  refine z_iload_n X dX3_wordSent_1 rfl ?_
  refine z_runV X kX3_80 (tX3_hasWord (nI k) hG hm hL) (hM.1) rfl rfl (Nat.le_of_ble_eq_true rfl) ⟨by decide, by decide⟩ ⟨by decide, by decide⟩ dX3_wordSent_2 ?_
  rintro _ g1 s1 ⟨rfl, h8, h9⟩
  replace h8 := h8.symm
  subst h8
  replace h9 := h9.symm
  subst h9
  rw [zin_nI hk (by omega)]
  refine z_if_eq (tgt := 17) X dX3_wordSent_5 (by decide) (fun c_5 => ?_) (fun c_5 => ?_)
  · exact absurd c_5 (by decide)
  · skip
    try simp (disch := omega) only [zk0, nI_leI, nI_ltI, nI_eq, zbk_notn, zbk_not, zbk_n0, zbk_0, zb_0, zb_n0, zb_not, zb_notn, Bool.not_eq_false, Bool.not_eq_true, Bool.not_eq_true', Bool.not_eq_false', decide_eq_true_eq, decide_eq_false_iff_not, Classical.not_not] at c_5
    refine z_aload_n X dX3_wordSent_8 rfl ?_
    refine z_getr2 X fX3_38 (hM.1) (hM.2.2.1) rfl dX3_wordSent_9 ?_
    refine z_iload_n X dX3_wordSent_12 rfl ?_
    refine z_ialdN X (hM.2.2.2.2.2.1) (by omega) (by omega) dX3_wordSent_13 ?_
    refine z_goto (tgt := 18) X dX3_wordSent_14 (by decide) ?_
    refine z_iret X (by decide) (by decide) rfl dX3_wordSent_18 ?_
    exact zI_e rfl rfl rfl

set_option maxHeartbeats 4000000 in
set_option maxRecDepth 100000 in
theorem tX3_wordNow {l : Launch} {D : va_G} {cy : Nat → ClassId} {z0 : zRg} {g : zSh} {σ : zIn} {nm m9 : Nat} (k : Nat) (hG : zG g nm) (hm : m9 < nm) (hL : g.2.2.2.1 (300 + m9) ≤ 24) (hk : k < g.2.2.2.1 (300 + m9)) : z_Ct l D cy z0 MX3_wordNow [.ref (g.2.1 (200 + m9)), .int (nI k)] g σ (zI (σ (400 + m9) k) g σ) := by
  have hM := hG.2.1 m9 hm
  refine z_ofM (by decide) (z_cr (z_ci z_c0)) (Nat.le_of_ble_eq_true rfl) ?_
  intro p e s m args below meth c X
  refine z_aload_n X dX3_wordNow_0 rfl ?_
  refine z_iload_n X dX3_wordNow_1 rfl ?_
  refine z_runV X kX3_80 (tX3_hasWord (nI k) hG hm hL) (hM.1) rfl rfl (Nat.le_of_ble_eq_true rfl) ⟨by decide, by decide⟩ ⟨by decide, by decide⟩ dX3_wordNow_2 ?_
  rintro _ g1 s1 ⟨rfl, h8, h9⟩
  replace h8 := h8.symm
  subst h8
  replace h9 := h9.symm
  subst h9
  rw [zin_nI hk (by omega)]
  refine z_if_eq (tgt := 17) X dX3_wordNow_5 (by decide) (fun c_5 => ?_) (fun c_5 => ?_)
  · exact absurd c_5 (by decide)
  · skip
    try simp (disch := omega) only [zk0, nI_leI, nI_ltI, nI_eq, zbk_notn, zbk_not, zbk_n0, zbk_0, zb_0, zb_n0, zb_not, zb_notn, Bool.not_eq_false, Bool.not_eq_true, Bool.not_eq_true', Bool.not_eq_false', decide_eq_true_eq, decide_eq_false_iff_not, Classical.not_not] at c_5
    refine z_aload_n X dX3_wordNow_8 rfl ?_
    refine z_getr2 X fX3_42 (hM.1) (hM.2.2.2.1) rfl dX3_wordNow_9 ?_
    refine z_iload_n X dX3_wordNow_12 rfl ?_
    refine z_ialdN X (hM.2.2.2.2.2.2.1) (by omega) (by omega) dX3_wordNow_13 ?_
    refine z_goto (tgt := 18) X dX3_wordNow_14 (by decide) ?_
    refine z_iret X (by decide) (by decide) rfl dX3_wordNow_18 ?_
    exact zI_e rfl rfl rfl

set_option maxHeartbeats 4000000 in
set_option maxRecDepth 100000 in
theorem tX3_change {l : Launch} {D : va_G} {cy : Nat → ClassId} {z0 : zRg} {g : zSh} {σ : zIn} {nm m9 : Nat} (k : Nat) (w : Int32) (hG : zG g nm) (hm : m9 < nm) (hL : g.2.2.2.1 (300 + m9) ≤ 24) (hk : k < g.2.2.2.1 (300 + m9)) : z_Ct l D cy z0 MX3_change [.ref (g.2.1 (200 + m9)), .int (nI k), .int w] g σ (zN g (z_up σ (400 + m9) k w)) := by
  have hM := hG.2.1 m9 hm
  refine z_ofM (by decide) (z_cr (z_ci (z_ci z_c0))) (Nat.le_of_ble_eq_true rfl) ?_
  intro p e s m args below meth c X
  refine z_aload_n X dX3_change_0 rfl ?_
  refine z_iload_n X dX3_change_1 rfl ?_
  refine z_runV X kX3_80 (tX3_hasWord (nI k) hG hm hL) (hM.1) rfl rfl (Nat.le_of_ble_eq_true rfl) ⟨by decide, by decide⟩ ⟨by decide, by decide⟩ dX3_change_2 ?_
  rintro _ g1 s1 ⟨rfl, h8, h9⟩
  replace h8 := h8.symm
  subst h8
  replace h9 := h9.symm
  subst h9
  rw [zin_nI hk (by omega)]
  refine z_if_eq (tgt := 15) X dX3_change_5 (by decide) (fun c_5 => ?_) (fun c_5 => ?_)
  · exact absurd c_5 (by decide)
  · skip
    try simp (disch := omega) only [zk0, nI_leI, nI_ltI, nI_eq, zbk_notn, zbk_not, zbk_n0, zbk_0, zb_0, zb_n0, zb_not, zb_notn, Bool.not_eq_false, Bool.not_eq_true, Bool.not_eq_true', Bool.not_eq_false', decide_eq_true_eq, decide_eq_false_iff_not, Classical.not_not] at c_5
    refine z_aload_n X dX3_change_8 rfl ?_
    refine z_getr2 X fX3_42 (hM.1) (hM.2.2.2.1) rfl dX3_change_9 ?_
    refine z_iload_n X dX3_change_12 rfl ?_
    refine z_iload_n X dX3_change_13 rfl ?_
    refine z_iastN X (hM.2.2.2.2.2.2.1) (by omega) (by omega) dX3_change_14 ?_
    refine z_vret X (by decide) (by decide) rfl dX3_change_15 ?_
    exact ⟨rfl, rfl, rfl⟩

set_option maxHeartbeats 4000000 in
set_option maxRecDepth 100000 in
theorem tX3_cableNow {l : Launch} {D : va_G} {cy : Nat → ClassId} {z0 : zRg} {g : zSh} {σ : zIn} {nm m9 : Nat} (hG : zG g nm) (hm : m9 < nm) (hL : g.2.2.2.1 (500 + m9) ≤ 8) (hleg : σ (200 + m9) 9 = 0 → ∃ q, q < g.2.2.2.1 (500 + m9) ∧ σ (200 + m9) 11 = nI q) : z_Ct l D cy z0 MX3_cableNow [.ref (g.2.1 (200 + m9))] g σ (zI (if σ (200 + m9) 9 = 0 then σ (500 + m9) (σ (200 + m9) 11).toNatClampNeg else -1) g σ) := by
  have hM := hG.2.1 m9 hm
  refine z_ofM (by decide) (z_cr z_c0) (Nat.le_of_ble_eq_true rfl) ?_
  intro p e s m args below meth c X
  refine z_aload_n X dX3_cableNow_0 rfl ?_
  refine z_geti X fX3_64 (hM.1) rfl dX3_cableNow_1 ?_
  refine z_if_ne (tgt := 25) X dX3_cableNow_4 (by decide) (fun c_4 => ?_) (fun c_4 => ?_)
  · skip
    refine z_iconst (v := -1) X (by decide) dX3_cableNow_25 ?_
    refine z_goto (tgt := 38) X dX3_cableNow_26 (by decide) ?_
    refine z_iret X (by decide) (by decide) rfl dX3_cableNow_38 ?_
    first
      | exact zI_e (by rw [if_neg c_4]) rfl rfl
      | exact zI_e (by rw [if_pos c_4, nI_clamp (by omega)]) rfl rfl
  · skip
    obtain ⟨q, hq1, hq2⟩ := hleg c_4
    refine z_aload_n X dX3_cableNow_7 rfl ?_
    refine z_geti X fX3_70 (hM.1) rfl dX3_cableNow_8 ?_
    rw [hq2]
    refine z_iconst (v := nI 0) X (by decide) dX3_cableNow_11 ?_
    refine z_aload_n X dX3_cableNow_12 rfl ?_
    refine z_getr2 X fX3_50 (hM.1) (hM.2.2.2.2.1) rfl dX3_cableNow_13 ?_
    refine z_alen X (t := 0) (by decide) (hM.2.2.2.2.2.2.2) dX3_cableNow_16 ?_
    refine z_iconst (v := nI 1) X (by decide) dX3_cableNow_17 ?_
    refine z_isub X dX3_cableNow_18 ?_
    refine z_runS X kX3_76 (tOut (nI q) (by omega)) rfl rfl (Nat.le_of_ble_eq_true rfl) ⟨by decide, by decide⟩ ⟨by decide, by decide⟩ dX3_cableNow_19 ?_
    rintro _ g1 s1 ⟨rfl, h8, h9⟩
    replace h8 := h8.symm
    subst h8
    replace h9 := h9.symm
    subst h9
    rw [zin_nI hq1 (by omega)]
    refine z_if_eq (tgt := 29) X dX3_cableNow_22 (by decide) (fun c_22 => ?_) (fun c_22 => ?_)
    · skip
      try simp (disch := omega) only [zk0, nI_leI, nI_ltI, nI_eq, zbk_notn, zbk_not, zbk_n0, zbk_0, zb_0, zb_n0, zb_not, zb_notn, Bool.not_eq_false, Bool.not_eq_true, Bool.not_eq_true', Bool.not_eq_false', decide_eq_true_eq, decide_eq_false_iff_not, Classical.not_not] at c_22
      refine z_aload_n X dX3_cableNow_29 rfl ?_
      refine z_getr2 X fX3_50 (hM.1) (hM.2.2.2.2.1) rfl dX3_cableNow_30 ?_
      refine z_aload_n X dX3_cableNow_33 rfl ?_
      refine z_geti X fX3_70 (hM.1) rfl dX3_cableNow_34 ?_
      rw [hq2]
      refine z_ialdN X (hM.2.2.2.2.2.2.2) (by omega) (by omega) dX3_cableNow_37 ?_
      refine z_iret X (by decide) (by decide) rfl dX3_cableNow_38 ?_
      first
        | exact zI_e (by rw [if_neg c_4]) rfl rfl
        | exact zI_e (by rw [if_pos c_4, nI_clamp (by omega)]) rfl rfl
    · exact absurd rfl c_22
