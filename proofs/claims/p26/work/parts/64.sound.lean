/-! the law: both, some, parts, sound -/
def zsm (x : Int32) (m : Nat) : Nat := (x.toUInt32 >>> 1).toNat % m
theorem zushr1 (x : Int32) : (x.toUInt32 >>> ((1 : Int32).toUInt32 &&& Int32.toUInt32 31)).toInt32 = nI (x.toUInt32 >>> 1).toNat ∧ (x.toUInt32 >>> 1).toNat < 2 ^ 31 := by
  have h31 : (x.toUInt32 >>> 1).toNat < 2 ^ 31 := by
    rw [UInt32.toNat_shiftRight]
    have : x.toUInt32.toNat < 2 ^ 32 := x.toUInt32.toNat_lt
    show x.toUInt32.toNat >>> 1 < 2 ^ 31
    rw [Nat.shiftRight_eq_div_pow]
    omega
  refine ⟨?_, h31⟩
  show (x.toUInt32 >>> 1).toInt32 = _
  generalize x.toUInt32 >>> 1 = u at *
  apply Int32.toBitVec_inj.mp
  show u.toBitVec = BitVec.ofNat 32 u.toNat
  show u.toBitVec = BitVec.ofNat 32 u.toBitVec.toNat
  rw [BitVec.ofNat_toNat, BitVec.setWidth_eq]
theorem zpk_5 {W V : Nat} (hW : W < 2 ^ 31) (hV : V < 2 ^ 31) : (if W / 26 ^ 0 % 26 = V / 26 ^ 0 % 26 then 0 else 1) + (if W / 26 ^ 1 % 26 = V / 26 ^ 1 % 26 then 0 else 1) + (if W / 26 ^ 2 % 26 = V / 26 ^ 2 % 26 then 0 else 1) + (if W / 26 ^ 3 % 26 = V / 26 ^ 3 % 26 then 0 else 1) + (if W / 26 ^ 4 % 26 = V / 26 ^ 4 % 26 then 0 else 1) = zp (nI W) (nI V) := by
  unfold zp
  simp only [zpk, zl_n hW, zl_n hV]
  show _ = 0 + (if W / 26 ^ 4 % 26 = V / 26 ^ 4 % 26 then 0 else 1) + (if W / 26 ^ 3 % 26 = V / 26 ^ 3 % 26 then 0 else 1) + (if W / 26 ^ 2 % 26 = V / 26 ^ 2 % 26 then 0 else 1) + (if W / 26 ^ 1 % 26 = V / 26 ^ 1 % 26 then 0 else 1) + (if W / 26 ^ 0 % 26 = V / 26 ^ 0 % 26 then 0 else 1)
  omega
/-- letters that differ, from the last on -/
def zpq (W V : Nat) : Nat → Nat
  | 0 => 0
  | k + 1 => zpq W V k + (if W / 26 ^ k % 26 = V / 26 ^ k % 26 then 0 else 1)
theorem zpq_le (W V : Nat) : ∀ k, zpq W V k ≤ k
  | 0 => Nat.le_refl 0
  | k + 1 => by have := zpq_le W V k; simp only [zpq]; split <;> omega
theorem zpq_5 {W V : Nat} (hW : W < 2 ^ 31) (hV : V < 2 ^ 31) : zpq W V 5 = zp (nI W) (nI V) := by
  rw [← zpk_5 hW hV]
  show 0 + _ + _ + _ + _ + _ = _
  rw [Nat.zero_add]
theorem zdiv26 (W k : Nat) : W / 26 ^ k / 26 = W / 26 ^ (k + 1) := by rw [Nat.div_div_eq_div_mul, Nat.pow_succ]
theorem zpq_y {W V k : Nat} (h : W / 26 ^ k % 26 = V / 26 ^ k % 26) : zpq W V (k + 1) = zpq W V k + 0 := by simp only [zpq]; rw [if_pos h]
theorem zpq_n {W V k : Nat} (h : ¬ W / 26 ^ k % 26 = V / 26 ^ k % 26) : zpq W V (k + 1) = zpq W V k + 1 := by simp only [zpq]; rw [if_neg h]
/-! sums of accounts and prices -/
theorem zis_swap {f : Nat → Nat → Int32} (M : Nat) : ∀ N, zis (fun o => zis (fun m => f o m) M) N = zis (fun m => zis (fun o => f o m) N) M
  | 0 => (zis_z (fun _ _ => rfl)).symm
  | N + 1 => by
    show zis (fun o => zis (fun m => f o m) M) N + zis (fun m => f N m) M = _
    rw [zis_swap M N, ← zis_add]
    rfl
theorem zis_pick {a : Nat} {p : Int32} : ∀ N, zis (fun o => if a = o then p else 0) N = if a < N then p else 0
  | 0 => by rw [if_neg (Nat.not_lt_zero _)]; rfl
  | N + 1 => by
    show zis (fun o => if a = o then p else 0) N + (if a = N then p else 0) = _
    rw [zis_pick N]
    by_cases e : a = N
    · rw [if_pos e, if_neg (by omega), if_pos (by omega), Int32.zero_add]
    · rw [if_neg e, Int32.add_zero]
      by_cases q : a < N
      · rw [if_pos q, if_pos (by omega)]
      · rw [if_neg q, if_neg (by omega)]
theorem zacc_0 {κ : zIn} {n : Nat → Nat} (hv : zIv κ n) : zis (fun o => κ (100 + o) 3) (n 3) = 0 := by
  obtain ⟨hA, hB, hC, hM, hF⟩ := hv
  rw [zis_cg (fun o ho => hF o ho)]
  unfold zbal
  rw [zis_swap]
  refine zis_z (fun m hm => ?_)
  unfold zshr
  rw [zis_swap]
  refine zis_z (fun k hk => ?_)
  have hr := ((hM.2 m hm).2.1.2.2.1 k hk).2
  have h1 : zad κ (zro κ m k) < n 3 := (hB.2.2 _ hr).2.1
  have h2 : zfm κ m < n 3 := (hM.2 m hm).1.1.2
  unfold zsh1
  rw [zis_sub, zis_pick, zis_pick, if_pos h1, if_pos h2, Int32.sub_self]
def ztm (k : Nat) : Nat := if k = 2 then 4 else if k = 1 then 2 else 1
theorem zkt_n {k : Nat} (h : k ≤ 2) : zkt (nI k) = nI (ztm k) ∧ 1 ≤ ztm k ∧ ztm k ≤ 4 := by
  rcases (show k = 0 ∨ k = 1 ∨ k = 2 by omega) with rfl | rfl | rfl <;> decide
/-- a price, as a number -/
def zpv (κ : zIn) (n : Nat → Nat) (m : Nat) : Nat := zsum (fun i => zrt κ (zro κ m i)) (n (200 + m)) * zpd κ m * ztm (zkd κ m)
theorem zpv_of {κ : zIn} {n : Nat → Nat} (hv : zIv κ n) {m : Nat} (hm : m < n 6) : κ (200 + m) 4 = nI (zpv κ n m) ∧ zpv κ n m ≤ 2800000 := by
  obtain ⟨hA, hB, hC, hM, hF⟩ := hv
  obtain ⟨⟨a1, a2, ⟨a3, a4⟩, ⟨a5, a6, a7⟩, a8⟩, ⟨b1, b2, b3, b4⟩, -⟩ := hM.2 m hm
  have hs : zsum (fun i => zrt κ (zro κ m i)) (n (200 + m)) ≤ 700 := by
    have := zsum_le (f := fun i => zrt κ (zro κ m i)) (c := 100) (n := n (200 + m)) (fun i hi => (hB.2.2 _ (b3 i hi).2).2.2.2.2.2.2.2.1)
    omega
  obtain ⟨k1, k2, k3⟩ := zkt_n a4
  refine ⟨?_, ?_⟩
  · rw [b4, a5, a3, k1]
    unfold zpv
    rw [pk_mul, pk_mul]
  · unfold zpv
    have h1 : zsum (fun i => zrt κ (zro κ m i)) (n (200 + m)) * zpd κ m ≤ 700 * 1000 := Nat.mul_le_mul hs a7
    have h2 := Nat.mul_le_mul h1 k3
    omega
theorem zprices {κ : zIn} {n : Nat → Nat} (hv : zIv κ n) : ∀ k, k ≤ n 6 → zis (fun m => κ (200 + m) 4) k = nI (zsum (zpv κ n) k) ∧ zsum (zpv κ n) k ≤ 2800000 * k
  | 0, _ => ⟨rfl, Nat.le_refl _⟩
  | k + 1, hk => by
    obtain ⟨h1, h2⟩ := zprices hv k (by omega)
    obtain ⟨h3, h4⟩ := zpv_of hv (show k < n 6 by omega)
    refine ⟨?_, ?_⟩
    · show zis (fun m => κ (200 + m) 4) k + κ (200 + k) 4 = nI (zsum (zpv κ n) k + zpv κ n k)
      rw [h1, h3, nI_ad]
    · show zsum (zpv κ n) k + zpv κ n k ≤ _
      omega
set_option maxHeartbeats 4000000 in
set_option maxRecDepth 100000 in
theorem tL_some {l : Launch} {D : va_G} {cy : Nat → ClassId} {z0 : zRg} {g : zSh} {σ : zIn} (x : Int32) (m9 : Nat) (h0 : 0 < m9) (hm : m9 < 2 ^ 31) : z_Cn (zc0 NL_some) l D cy z0 NL_some [.int x, .int (nI m9)] g σ (zI (nI (zsm x m9)) g σ) := by
  obtain ⟨hx1, hx2⟩ := zushr1 x
  refine z_ofN (by decide) (z_ci (z_ci z_c0)) (Nat.le_of_ble_eq_true rfl) ?_
  intro p e s m args below meth c X Y
  refine z_iload_n X dL_some_0 rfl ?_
  refine z_iconst (v := nI 1) X (by decide) dL_some_1 ?_
  refine z_iushr X dL_some_2 ?_
  rw [show (nI 1 : Int32) = 1 from rfl, hx1]
  refine z_iload_n X dL_some_3 rfl ?_
  refine z_iremN X (by omega) (by omega) (by omega) dL_some_4 ?_
  refine z_iret X (by decide) (by decide) rfl dL_some_5 ?_
  exact zI_e rfl rfl rfl

theorem zsm_lt {x : Int32} {m : Nat} (h : 0 < m) : zsm x m < m := Nat.mod_lt _ h
set_option maxHeartbeats 4000000 in
set_option maxRecDepth 100000 in
theorem tL_parts {l : Launch} {D : va_G} {cy : Nat → ClassId} {z0 : zRg} {g : zSh} {σ : zIn} (W9 V9 : Nat) (hW : W9 < 2 ^ 31) (hV : V9 < 2 ^ 31) : z_Cn (zc0 NL_parts) l D cy z0 NL_parts [.int (nI W9), .int (nI V9)] g σ (zI (nI (zp (nI W9) (nI V9))) g σ) := by
  refine z_ofN (by decide) (z_ci (z_ci z_c0)) (Nat.le_of_ble_eq_true rfl) ?_
  intro p e s m args below meth c X Y
  have loop_10 : ∀ (n9 : Nat) (k : Nat) (hk : k ≤ 5) (hn : 5 - k < n9), z_V p l e (zRm NL_parts) s m args below meth c 6 D cy z0 0 0 (zQm NL_parts below D cy z0 (zI (nI (zp (nI W9) (nI V9))) g σ) args s) 10 [some (.int (nI W9)), some (.int (nI V9)), some (.int (nI (zpq W9 V9 k))), some (.int (nI (W9 / 26 ^ k))), some (.int (nI (V9 / 26 ^ k))), some (.int (nI k))] [] g σ := by
    intro n9
    induction n9 with
    | zero => intro k hk hn; exact absurd hn (Nat.not_lt_zero _)
    | succ n9 ih_10 =>
      intro k hk hn
      have hd1 := Nat.div_le_self W9 (26 ^ k)
      have hd2 := Nat.div_le_self V9 (26 ^ k)
      have hq := zpq_le W9 V9 k
      refine z_iload X dL_parts_10 rfl ?_
      refine z_iconst (v := nI 5) X (by decide) dL_parts_12 ?_
      refine z_icmp_ge (tgt := 54) X dL_parts_13 (by decide) (fun c_13 => ?_) (fun c_13 => ?_)
      · skip
        try simp (disch := omega) only [zk0, nI_leI, nI_ltI, nI_eq, zbk_notn, zbk_not, zbk_n0, zbk_0, zb_0, zb_n0, zb_not, zb_notn, Bool.not_eq_false, Bool.not_eq_true, Bool.not_eq_true', Bool.not_eq_false', decide_eq_true_eq, decide_eq_false_iff_not, Classical.not_not] at c_13
        refine z_iload_n X dL_parts_54 rfl ?_
        refine z_iret X (by decide) (by decide) rfl dL_parts_55 ?_
        have e : k = 5 := by omega
        subst e
        exact zI_e (by rw [zpq_5 hW hV]) rfl rfl
      · skip
        try simp (disch := omega) only [zk0, nI_leI, nI_ltI, nI_eq, zbk_notn, zbk_not, zbk_n0, zbk_0, zb_0, zb_n0, zb_not, zb_notn, Bool.not_eq_false, Bool.not_eq_true, Bool.not_eq_true', Bool.not_eq_false', decide_eq_true_eq, decide_eq_false_iff_not, Classical.not_not] at c_13
        refine z_iload_n X dL_parts_16 rfl ?_
        refine z_iload_n X dL_parts_17 rfl ?_
        refine z_bipush (v := nI 26) X (by decide) dL_parts_18 ?_
        refine z_iremN X (by omega) (by omega) (by omega) dL_parts_20 ?_
        refine z_iload X dL_parts_21 rfl ?_
        refine z_bipush (v := nI 26) X (by decide) dL_parts_23 ?_
        refine z_iremN X (by omega) (by omega) (by omega) dL_parts_25 ?_
        refine z_icmp_ne (tgt := 33) X dL_parts_26 (by decide) (fun c_26 => ?_) (fun c_26 => ?_)
        · skip
          try simp (disch := omega) only [zk0, nI_leI, nI_ltI, nI_eq, zbk_notn, zbk_not, zbk_n0, zbk_0, zb_0, zb_n0, zb_not, zb_notn, Bool.not_eq_false, Bool.not_eq_true, Bool.not_eq_true', Bool.not_eq_false', decide_eq_true_eq, decide_eq_false_iff_not, Classical.not_not] at c_26
          refine z_iconst (v := nI 1) X (by decide) dL_parts_33 ?_
          refine z_iaddN X dL_parts_34 ?_
          refine z_istore_n X dL_parts_35 (by decide) ?_
          refine z_iload_n X dL_parts_36 rfl ?_
          refine z_bipush (v := nI 26) X (by decide) dL_parts_37 ?_
          refine z_idivN X (by omega) (by omega) (by omega) dL_parts_39 ?_
          refine z_istore_n X dL_parts_40 (by decide) ?_
          refine z_iload X dL_parts_41 rfl ?_
          refine z_bipush (v := nI 26) X (by decide) dL_parts_43 ?_
          refine z_idivN X (by omega) (by omega) (by omega) dL_parts_45 ?_
          refine z_istore X dL_parts_46 (by decide) ?_
          refine z_inc1 X dL_parts_48 rfl (by decide) ?_
          refine z_goto (tgt := 10) X dL_parts_51 (by decide) ?_
          have e2 := ih_10 (k + 1) (by omega) (by omega)
          rw [zdiv26, zdiv26]
          first | (rw [zpq_y c_26] at e2; exact e2) | (rw [zpq_n c_26] at e2; exact e2)
        · skip
          try simp (disch := omega) only [zk0, nI_leI, nI_ltI, nI_eq, zbk_notn, zbk_not, zbk_n0, zbk_0, zb_0, zb_n0, zb_not, zb_notn, Bool.not_eq_false, Bool.not_eq_true, Bool.not_eq_true', Bool.not_eq_false', decide_eq_true_eq, decide_eq_false_iff_not, Classical.not_not] at c_26
          refine z_iconst (v := nI 0) X (by decide) dL_parts_29 ?_
          refine z_goto (tgt := 34) X dL_parts_30 (by decide) ?_
          refine z_iaddN X dL_parts_34 ?_
          refine z_istore_n X dL_parts_35 (by decide) ?_
          refine z_iload_n X dL_parts_36 rfl ?_
          refine z_bipush (v := nI 26) X (by decide) dL_parts_37 ?_
          refine z_idivN X (by omega) (by omega) (by omega) dL_parts_39 ?_
          refine z_istore_n X dL_parts_40 (by decide) ?_
          refine z_iload X dL_parts_41 rfl ?_
          refine z_bipush (v := nI 26) X (by decide) dL_parts_43 ?_
          refine z_idivN X (by omega) (by omega) (by omega) dL_parts_45 ?_
          refine z_istore X dL_parts_46 (by decide) ?_
          refine z_inc1 X dL_parts_48 rfl (by decide) ?_
          refine z_goto (tgt := 10) X dL_parts_51 (by decide) ?_
          have e2 := ih_10 (k + 1) (by omega) (by omega)
          rw [zdiv26, zdiv26]
          first | (rw [zpq_y c_26] at e2; exact e2) | (rw [zpq_n c_26] at e2; exact e2)
  refine z_iconst (v := nI 0) X (by decide) dL_parts_0 ?_
  refine z_istore_n X dL_parts_1 (by decide) ?_
  refine z_iload_n X dL_parts_2 rfl ?_
  refine z_istore_n X dL_parts_3 (by decide) ?_
  refine z_iload_n X dL_parts_4 rfl ?_
  refine z_istore X dL_parts_5 (by decide) ?_
  refine z_iconst (v := nI 0) X (by decide) dL_parts_7 ?_
  refine z_istore X dL_parts_8 (by decide) ?_
  have e2 := loop_10 (5 - 0 + 1) 0 (by omega) (by omega)
  rw [Nat.pow_zero, Nat.div_one, Nat.div_one] at e2
  exact e2

/-- the same call to both, told by R -/
def zB2 (ao ai ad : Nat) (g2 : zSh) (σ2 : zIn) (R : zRl9) : Option Value → zSh → zIn → Prop := fun v G S => ∃ r κ' n' w' τ', v = some (.int r) ∧ R r κ' n' ∧ G = zJg w' ∧ S = zJs τ' ∧ zLc ao ai ad κ' n' g2 σ2 w' τ'
set_option maxHeartbeats 4000000 in
set_option maxRecDepth 100000 in
theorem tL_both {l : Launch} {D : va_G} {cy : Nat → ClassId} {z0 : zRg} {R : zRl9} {ao ai ad : Nat} {κ : zIn} {n : Nat → Nat} {g2 : zSh} {σ2 : zIn} {w : Nat → zSh} {τ : Nat → zIn} (w5 a5 b5 c5 d5 e5 : Int32) (hd : zDet R) (hL : zLc ao ai ad κ n g2 σ2 w τ) (hc : ∀ g σ, zSt g σ κ n → ∀ z1 : zRg, z_Cx l D cy z1 NL_does [.ref (g.2.1 1), .int w5, .int a5, .int b5, .int c5, .int d5, .int e5] g σ (zRs (g.2.1 1) R) (zRx (g.2.1 1) R κ n)) : z_Cn (zc0 NL_both) l D cy z0 NL_both [.ref ao, .ref ai, .int w5, .int a5, .int b5, .int c5, .int d5, .int e5] (zJg w) (zJs τ) (zB2 ao ai ad g2 σ2 R) := by
  have h0 := hL.2.2.1
  have h1 := hL.2.2.2.1
  subst h0
  subst h1
  refine z_ofN (by decide) (z_cr (z_cr (z_ci (z_ci (z_ci (z_ci (z_ci (z_ci z_c0)))))))) (Nat.le_of_ble_eq_true rfl) ?_
  intro p e s m args below meth c X Y
  refine z_aload_n X dL_both_0 rfl ?_
  refine z_iload_n X dL_both_1 rfl ?_
  refine z_iload_n X dL_both_2 rfl ?_
  refine z_iload X dL_both_3 rfl ?_
  refine z_iload X dL_both_5 rfl ?_
  refine z_iload X dL_both_7 rfl ?_
  refine z_iload X dL_both_9 rfl ?_
  refine z_runSW X Y wL_112 (z_Cw_fr 0 (by decide) (fun z1 => tL_call w5 a5 b5 c5 d5 e5 (hc _ _ hL.1 z1))) rfl rfl (Nat.le_of_ble_eq_true rfl) ⟨by decide, by decide⟩ ⟨by decide, by decide⟩ dL_both_11 ?_
  rintro _ _ _ ⟨gA, sA, ⟨r, κ1, n1, rfl, hr, hs, ha⟩, rfl, rfl⟩
  refine z_istore X dL_both_14 (by decide) ?_
  refine z_iload X dL_both_16 rfl ?_
  refine z_aload_n X dL_both_18 rfl ?_
  refine z_iload_n X dL_both_19 rfl ?_
  refine z_iload_n X dL_both_20 rfl ?_
  refine z_iload X dL_both_21 rfl ?_
  refine z_iload X dL_both_23 rfl ?_
  refine z_iload X dL_both_25 rfl ?_
  refine z_iload X dL_both_27 rfl ?_
  refine z_runSW X Y wL_112 (z_Cw_fr (w := zp1 w 0 gA) (τ := zp1 τ 0 sA) 1 (by decide) (fun z1 => tL_call w5 a5 b5 c5 d5 e5 (hc (w 1) (τ 1) hL.2.1 z1))) rfl rfl (Nat.le_of_ble_eq_true rfl) ⟨by decide, by decide⟩ ⟨by decide, by decide⟩ dL_both_29 ?_
  rintro _ _ _ ⟨gB, sB, ⟨r2, κ2, n2, rfl, hr2, hs2, ha2⟩, rfl, rfl⟩
  obtain ⟨rfl, rfl, rfl⟩ := hd _ _ _ _ _ _ hr hr2
  refine z_icmp_ne (tgt := 40) X dL_both_32 (by decide) (fun c_32 => ?_) (fun c_32 => ?_)
  · exact absurd rfl c_32
  · skip
    refine z_iload X dL_both_35 rfl ?_
    refine z_goto (tgt := 42) X dL_both_37 (by decide) ?_
    refine z_iret X (by decide) (by decide) rfl dL_both_42 ?_
    exact ⟨r, κ1, n1, _, _, rfl, hr, rfl, rfl, hs, hs2, ha, ha2, hL.2.2.2.2⟩

set_option maxHeartbeats 4000000 in
set_option maxRecDepth 100000 in
theorem tL_sound {l : Launch} {D : va_G} {cy : Nat → ClassId} {z0 : zRg} {ao ai ad : Nat} {κ : zIn} {n : Nat → Nat} {g2 : zSh} {σ2 : zIn} {w : Nat → zSh} {τ : Nat → zIn} (hL : zLc ao ai ad κ n g2 σ2 w τ) (hd3 : σ2 1 3 = nI (n 6)) (hd0 : σ2 1 0 = nI (n 3)) (hd5 : σ2 1 5 = nI (n 2)) : z_Cn (zc0 NL_sound) l D cy z0 NL_sound [.ref ao, .ref ad] (zJg w) (zJs τ) (zBs ao ai ad κ n g2 σ2 (.int (nI 1))) := by
  have hn6 : n 6 ≤ 60 := hL.1.M.1.2
  have hn3 : n 3 ≤ 8 := hL.1.B.1.2.1
  have hn2 : n 2 ≤ 24 := hL.1.A.2.2.2.1
  refine z_ofN (by decide) (z_cr (z_cr z_c0)) (Nat.le_of_ble_eq_true rfl) ?_
  intro p e s m args below meth c X Y
  have loop_10 : ∀ (n9 : Nat) (o : Nat) (w : Nat → zSh) (τ : Nat → zIn) (ho : o ≤ n 3) (hL : zLc ao ai ad κ n g2 σ2 w τ) (hn : n 3 - o < n9), z_V p l e (zRm NL_sound) s m args below meth c 6 D cy z0 0 0 (zQm NL_sound below D cy z0 (zBs ao ai ad κ n g2 σ2 (.int (nI 1))) args s) 10 [some (.ref ao), some (.ref ad), some (.int (zis (fun o => κ (100 + o) 3) o)), some (.int (nI 0)), some (.int (nI 1)), some (.int (nI o))] [] (zJg w) (zJs τ) := by
    intro n9
    induction n9 with
    | zero => intro o w τ ho hL hn; exact absurd hn (Nat.not_lt_zero _)
    | succ n9 ih_10 =>
      intro o w τ ho hL hn
      refine z_iload X dL_sound_10 rfl ?_
      refine z_aload_n X dL_sound_12 rfl ?_
      refine z_iconst (v := nI 0) X (by decide) dL_sound_13 ?_
      refine z_ialda X hL.ar hL.da (by decide) (by decide) dL_sound_14 ?_
      rw [hL.sd]
      rw [hd0]
      refine z_icmp_ge (tgt := 106) X dL_sound_15 (by decide) (fun c_15 => ?_) (fun c_15 => ?_)
      · skip
        try simp (disch := omega) only [zk0, nI_leI, nI_ltI, nI_eq, zbk_notn, zbk_not, zbk_n0, zbk_0, zb_0, zb_n0, zb_not, zb_notn, Bool.not_eq_false, Bool.not_eq_true, Bool.not_eq_true', Bool.not_eq_false', decide_eq_true_eq, decide_eq_false_iff_not, Classical.not_not] at c_15
        have eo : o = n 3 := by omega
        subst eo
        have loop_109 : ∀ (n9 : Nat) (k : Nat) (w : Nat → zSh) (τ : Nat → zIn) (hk : k ≤ n 6) (hL : zLc ao ai ad κ n g2 σ2 w τ) (hn : n 6 - k < n9), z_V p l e (zRm NL_sound) s m args below meth c 6 D cy z0 0 0 (zQm NL_sound below D cy z0 (zBs ao ai ad κ n g2 σ2 (.int (nI 1))) args s) 109 [some (.ref ao), some (.ref ad), some (.int (zis (fun o => κ (100 + o) 3) (n 3))), some (.int (zis (fun m => κ (200 + m) 4) k)), some (.int (nI 1)), some (.int (nI k))] [] (zJg w) (zJs τ) := by
          intro n9
          induction n9 with
          | zero => intro k w τ hk hL hn; exact absurd hn (Nat.not_lt_zero _)
          | succ n9 ih_109 =>
            intro k w τ hk hL hn
            refine z_iload X dL_sound_109 rfl ?_
            refine z_aload_n X dL_sound_111 rfl ?_
            refine z_iconst (v := nI 3) X (by decide) dL_sound_112 ?_
            refine z_ialda X hL.ar hL.da (by decide) (by decide) dL_sound_113 ?_
            rw [hL.sd]
            rw [hd3]
            refine z_icmp_ge (tgt := 133) X dL_sound_114 (by decide) (fun c_114 => ?_) (fun c_114 => ?_)
            · skip
              try simp (disch := omega) only [zk0, nI_leI, nI_ltI, nI_eq, zbk_notn, zbk_not, zbk_n0, zbk_0, zb_0, zb_n0, zb_not, zb_notn, Bool.not_eq_false, Bool.not_eq_true, Bool.not_eq_true', Bool.not_eq_false', decide_eq_true_eq, decide_eq_false_iff_not, Classical.not_not] at c_114
              have ek : k = n 6 := by omega
              subst ek
              refine z_iload X dL_sound_133 rfl ?_
              refine z_if_eq (tgt := 150) X dL_sound_135 (by decide) (fun c_135 => ?_) (fun c_135 => ?_)
              · first | exact absurd c_135 (by decide) | exact absurd (by decide) c_135
              · skip
                rw [zacc_0 hL.1.2.2.2]
                refine z_iload_n X dL_sound_138 rfl ?_
                refine z_if_ne (tgt := 150) X dL_sound_139 (by decide) (fun c_139 => ?_) (fun c_139 => ?_)
                · exact absurd rfl c_139
                · skip
                  try simp (disch := omega) only [zk0, nI_leI, nI_ltI, nI_eq, zbk_notn, zbk_not, zbk_n0, zbk_0, zb_0, zb_n0, zb_not, zb_notn, Bool.not_eq_false, Bool.not_eq_true, Bool.not_eq_true', Bool.not_eq_false', decide_eq_true_eq, decide_eq_false_iff_not, Classical.not_not] at c_139
                  obtain ⟨hp1, hp2⟩ := zprices hL.1.2.2.2 (n 6) (Nat.le_refl _)
                  rw [hp1]
                  refine z_iload_n X dL_sound_142 rfl ?_
                  refine z_if_lt (tgt := 150) X dL_sound_143 (by decide) (fun c_143 => ?_) (fun c_143 => ?_)
                  · skip
                    try simp (disch := omega) only [zk0, nI_leI, nI_ltI, nI_eq, zbk_notn, zbk_not, zbk_n0, zbk_0, zb_0, zb_n0, zb_not, zb_notn, Bool.not_eq_false, Bool.not_eq_true, Bool.not_eq_true', Bool.not_eq_false', decide_eq_true_eq, decide_eq_false_iff_not, Classical.not_not] at c_143
                    (exfalso; omega)
                  · skip
                    try simp (disch := omega) only [zk0, nI_leI, nI_ltI, nI_eq, zbk_notn, zbk_not, zbk_n0, zbk_0, zb_0, zb_n0, zb_not, zb_notn, Bool.not_eq_false, Bool.not_eq_true, Bool.not_eq_true', Bool.not_eq_false', decide_eq_true_eq, decide_eq_false_iff_not, Classical.not_not] at c_143
                    refine z_iconst (v := nI 1) X (by decide) dL_sound_146 ?_
                    refine z_goto (tgt := 151) X dL_sound_147 (by decide) ?_
                    refine z_zret X (by decide) (by decide) rfl (by first | exact Or.inl rfl | exact Or.inr rfl | exact zb_01 _ | assumption) dL_sound_151 ?_
                    exact ⟨w, τ, rfl, rfl, rfl, hL⟩
            · skip
              try simp (disch := omega) only [zk0, nI_leI, nI_ltI, nI_eq, zbk_notn, zbk_not, zbk_n0, zbk_0, zb_0, zb_n0, zb_not, zb_notn, Bool.not_eq_false, Bool.not_eq_true, Bool.not_eq_true', Bool.not_eq_false', decide_eq_true_eq, decide_eq_false_iff_not, Classical.not_not] at c_114
              refine z_iload_n X dL_sound_117 rfl ?_
              refine z_aload_n X dL_sound_118 rfl ?_
              refine z_iload X dL_sound_119 rfl ?_
              refine z_iconst (v := nI 3) X (by decide) dL_sound_121 ?_
              refine z_runVa X Y aL_85 (tB_of hL (Or.inl ⟨rfl, rfl⟩) k 3 (by omega) (by omega)) (hL.ob (Or.inl ⟨rfl, rfl⟩)) (hL.aq (Or.inl ⟨rfl, rfl⟩)) rfl rfl (Nat.le_of_ble_eq_true rfl) ⟨by decide, by decide⟩ ⟨by decide, by decide⟩ dL_sound_122 ?_
              rintro _ _ _ ⟨w, τ, rfl, rfl, rfl, hL⟩
              rw [show zok κ n k 3 = κ (200 + k) 4 from rfl]
              refine z_iadd X dL_sound_125 ?_
              refine z_istore_n X dL_sound_126 (by decide) ?_
              refine z_inc1 X dL_sound_127 rfl (by decide) ?_
              refine z_goto (tgt := 109) X dL_sound_130 (by decide) ?_
              exact ih_109 (k + 1) w τ (by omega) hL (by omega)
        refine z_iconst (v := nI 0) X (by decide) dL_sound_106 ?_
        refine z_istore X dL_sound_107 (by decide) ?_
        exact loop_109 (n 6 - 0 + 1) 0 w τ (by omega) hL (by omega)
      · skip
        try simp (disch := omega) only [zk0, nI_leI, nI_ltI, nI_eq, zbk_notn, zbk_not, zbk_n0, zbk_0, zb_0, zb_n0, zb_not, zb_notn, Bool.not_eq_false, Bool.not_eq_true, Bool.not_eq_true', Bool.not_eq_false', decide_eq_true_eq, decide_eq_false_iff_not, Classical.not_not] at c_15
        refine z_iload X dL_sound_18 rfl ?_
        refine z_if_eq (tgt := 106) X dL_sound_20 (by decide) (fun c_20 => ?_) (fun c_20 => ?_)
        · first | exact absurd c_20 (by decide) | exact absurd (by decide) c_20
        · skip
          have hF9 : κ (100 + o) 3 = zbal κ n o := hL.1.F o (by omega)
          refine z_iload_n X dL_sound_23 rfl ?_
          refine z_aload_n X dL_sound_24 rfl ?_
          refine z_iload X dL_sound_25 rfl ?_
          refine z_runVa X Y aL_98 (tB_acc hL (Or.inl ⟨rfl, rfl⟩) o (by omega)) (hL.ob (Or.inl ⟨rfl, rfl⟩)) (hL.aq (Or.inl ⟨rfl, rfl⟩)) rfl rfl (Nat.le_of_ble_eq_true rfl) ⟨by decide, by decide⟩ ⟨by decide, by decide⟩ dL_sound_27 ?_
          rintro _ _ _ ⟨w, τ, rfl, rfl, rfl, hL⟩
          refine z_iadd X dL_sound_30 ?_
          refine z_istore_n X dL_sound_31 (by decide) ?_
          refine z_aload_n X dL_sound_32 rfl ?_
          refine z_iload X dL_sound_33 rfl ?_
          refine z_runVa X Y aL_98 (tB_acc hL (Or.inl ⟨rfl, rfl⟩) o (by omega)) (hL.ob (Or.inl ⟨rfl, rfl⟩)) (hL.aq (Or.inl ⟨rfl, rfl⟩)) rfl rfl (Nat.le_of_ble_eq_true rfl) ⟨by decide, by decide⟩ ⟨by decide, by decide⟩ dL_sound_35 ?_
          rintro _ _ _ ⟨w, τ, rfl, rfl, rfl, hL⟩
          refine z_aload_n X dL_sound_38 rfl ?_
          refine z_iload X dL_sound_39 rfl ?_
          refine z_runVa X Y aL_101 (tB_anew hL (Or.inl ⟨rfl, rfl⟩) o (by omega)) (hL.ob (Or.inl ⟨rfl, rfl⟩)) (hL.aq (Or.inl ⟨rfl, rfl⟩)) rfl rfl (Nat.le_of_ble_eq_true rfl) ⟨by decide, by decide⟩ ⟨by decide, by decide⟩ dL_sound_41 ?_
          rintro _ _ _ ⟨w, τ, rfl, rfl, rfl, hL⟩
          refine z_icmp_ne (tgt := 97) X dL_sound_44 (by decide) (fun c_44 => ?_) (fun c_44 => ?_)
          · skip
            first | exact absurd hF9 c_44 | (exfalso; omega)
          · skip
            refine z_aload_n X dL_sound_47 rfl ?_
            refine z_iload X dL_sound_48 rfl ?_
            refine z_iconst (v := zb true) X (by decide) dL_sound_50 ?_
            refine z_runVa X Y aL_69 (tB_words hL (Or.inl ⟨rfl, rfl⟩) o true (by omega)) (hL.ob (Or.inl ⟨rfl, rfl⟩)) (hL.aq (Or.inl ⟨rfl, rfl⟩)) rfl rfl (Nat.le_of_ble_eq_true rfl) ⟨by decide, by decide⟩ ⟨by decide, by decide⟩ dL_sound_51 ?_
            rintro _ _ _ ⟨⟨w, τ, rfl, rfl, rfl, hL⟩, hP1⟩
            refine z_aload_n X dL_sound_54 rfl ?_
            refine z_iload X dL_sound_55 rfl ?_
            refine z_iconst (v := zb false) X (by decide) dL_sound_57 ?_
            refine z_runVa X Y aL_69 (tB_words hL (Or.inl ⟨rfl, rfl⟩) o false (by omega)) (hL.ob (Or.inl ⟨rfl, rfl⟩)) (hL.aq (Or.inl ⟨rfl, rfl⟩)) rfl rfl (Nat.le_of_ble_eq_true rfl) ⟨by decide, by decide⟩ ⟨by decide, by decide⟩ dL_sound_58 ?_
            rintro _ _ _ ⟨⟨w, τ, rfl, rfl, rfl, hL⟩, hP2⟩
            obtain ⟨p1, m1, L1, W1, hw1, e1⟩ := hP1
            obtain ⟨p2, m2, L2, W2, hw2, e2⟩ := hP2
            have hle := (zWd_ok hL.1 hw1).1 _ _ _ _ hw2
            obtain ⟨-, hz1, hz2, -, hz3, -⟩ := zWd_ok hL.1 hw2
            rw [e1, e2]
            refine z_icmp_gt (tgt := 97) X dL_sound_61 (by decide) (fun c_61 => ?_) (fun c_61 => ?_)
            · skip
              try simp (disch := omega) only [zk0, nI_leI, nI_ltI, nI_eq, zbk_notn, zbk_not, zbk_n0, zbk_0, zb_0, zb_n0, zb_not, zb_notn, Bool.not_eq_false, Bool.not_eq_true, Bool.not_eq_true', Bool.not_eq_false', decide_eq_true_eq, decide_eq_false_iff_not, Classical.not_not] at c_61
              first | exact absurd hF9 c_44 | (exfalso; omega)
            · skip
              try simp (disch := omega) only [zk0, nI_leI, nI_ltI, nI_eq, zbk_notn, zbk_not, zbk_n0, zbk_0, zb_0, zb_n0, zb_not, zb_notn, Bool.not_eq_false, Bool.not_eq_true, Bool.not_eq_true', Bool.not_eq_false', decide_eq_true_eq, decide_eq_false_iff_not, Classical.not_not] at c_61
              refine z_aload_n X dL_sound_64 rfl ?_
              refine z_iload X dL_sound_65 rfl ?_
              refine z_iconst (v := zb false) X (by decide) dL_sound_67 ?_
              refine z_runVa X Y aL_69 (tB_words hL (Or.inl ⟨rfl, rfl⟩) o false (by omega)) (hL.ob (Or.inl ⟨rfl, rfl⟩)) (hL.aq (Or.inl ⟨rfl, rfl⟩)) rfl rfl (Nat.le_of_ble_eq_true rfl) ⟨by decide, by decide⟩ ⟨by decide, by decide⟩ dL_sound_68 ?_
              rintro _ _ _ ⟨⟨w, τ, rfl, rfl, rfl, hL⟩, -⟩
              rw [e2]
              refine z_if_ne (tgt := 78) X dL_sound_71 (by decide) (fun c_71 => ?_) (fun c_71 => ?_)
              · skip
                try simp (disch := omega) only [zk0, nI_leI, nI_ltI, nI_eq, zbk_notn, zbk_not, zbk_n0, zbk_0, zb_0, zb_n0, zb_not, zb_notn, Bool.not_eq_false, Bool.not_eq_true, Bool.not_eq_true', Bool.not_eq_false', decide_eq_true_eq, decide_eq_false_iff_not, Classical.not_not] at c_71
                refine z_iconst (v := nI 0) X (by decide) dL_sound_78 ?_
                refine z_aload_n X dL_sound_79 rfl ?_
                refine z_iconst (v := nI 5) X (by decide) dL_sound_80 ?_
                refine z_ialda X hL.ar hL.da (by decide) (by decide) dL_sound_81 ?_
                rw [hL.sd]
                rw [hd5]
                refine z_if_ne (tgt := 89) X dL_sound_82 (by decide) (fun c_82 => ?_) (fun c_82 => ?_)
                · skip
                  try simp (disch := omega) only [zk0, nI_leI, nI_ltI, nI_eq, zbk_notn, zbk_not, zbk_n0, zbk_0, zb_0, zb_n0, zb_not, zb_notn, Bool.not_eq_false, Bool.not_eq_true, Bool.not_eq_true', Bool.not_eq_false', decide_eq_true_eq, decide_eq_false_iff_not, Classical.not_not] at c_82
                  refine z_iconst (v := nI 0) X (by decide) dL_sound_89 ?_
                  refine z_icmp_ne (tgt := 97) X dL_sound_90 (by decide) (fun c_90 => ?_) (fun c_90 => ?_)
                  · first | exact absurd c_90 (by decide) | exact absurd (by decide) c_90
                  · skip
                    refine z_iconst (v := nI 1) X (by decide) dL_sound_93 ?_
                    refine z_goto (tgt := 98) X dL_sound_94 (by decide) ?_
                    refine z_istore X dL_sound_98 (by decide) ?_
                    refine z_inc1 X dL_sound_100 rfl (by decide) ?_
                    refine z_goto (tgt := 10) X dL_sound_103 (by decide) ?_
                    exact ih_10 (o + 1) w τ (by omega) hL (by omega)
                · skip
                  try simp (disch := omega) only [zk0, nI_leI, nI_ltI, nI_eq, zbk_notn, zbk_not, zbk_n0, zbk_0, zb_0, zb_n0, zb_not, zb_notn, Bool.not_eq_false, Bool.not_eq_true, Bool.not_eq_true', Bool.not_eq_false', decide_eq_true_eq, decide_eq_false_iff_not, Classical.not_not] at c_82
                  refine z_iconst (v := nI 1) X (by decide) dL_sound_85 ?_
                  refine z_goto (tgt := 90) X dL_sound_86 (by decide) ?_
                  refine z_icmp_ne (tgt := 97) X dL_sound_90 (by decide) (fun c_90 => ?_) (fun c_90 => ?_)
                  · skip
                    first | exact absurd hF9 c_44 | (exfalso; omega)
                  · first | exact absurd c_90 (by decide) | exact absurd (by decide) c_90
              · skip
                try simp (disch := omega) only [zk0, nI_leI, nI_ltI, nI_eq, zbk_notn, zbk_not, zbk_n0, zbk_0, zb_0, zb_n0, zb_not, zb_notn, Bool.not_eq_false, Bool.not_eq_true, Bool.not_eq_true', Bool.not_eq_false', decide_eq_true_eq, decide_eq_false_iff_not, Classical.not_not] at c_71
                refine z_iconst (v := nI 1) X (by decide) dL_sound_74 ?_
                refine z_goto (tgt := 79) X dL_sound_75 (by decide) ?_
                refine z_aload_n X dL_sound_79 rfl ?_
                refine z_iconst (v := nI 5) X (by decide) dL_sound_80 ?_
                refine z_ialda X hL.ar hL.da (by decide) (by decide) dL_sound_81 ?_
                rw [hL.sd]
                rw [hd5]
                refine z_if_ne (tgt := 89) X dL_sound_82 (by decide) (fun c_82 => ?_) (fun c_82 => ?_)
                · skip
                  try simp (disch := omega) only [zk0, nI_leI, nI_ltI, nI_eq, zbk_notn, zbk_not, zbk_n0, zbk_0, zb_0, zb_n0, zb_not, zb_notn, Bool.not_eq_false, Bool.not_eq_true, Bool.not_eq_true', Bool.not_eq_false', decide_eq_true_eq, decide_eq_false_iff_not, Classical.not_not] at c_82
                  refine z_iconst (v := nI 0) X (by decide) dL_sound_89 ?_
                  refine z_icmp_ne (tgt := 97) X dL_sound_90 (by decide) (fun c_90 => ?_) (fun c_90 => ?_)
                  · skip
                    first | exact absurd hF9 c_44 | (exfalso; omega)
                  · first | exact absurd c_90 (by decide) | exact absurd (by decide) c_90
                · skip
                  try simp (disch := omega) only [zk0, nI_leI, nI_ltI, nI_eq, zbk_notn, zbk_not, zbk_n0, zbk_0, zb_0, zb_n0, zb_not, zb_notn, Bool.not_eq_false, Bool.not_eq_true, Bool.not_eq_true', Bool.not_eq_false', decide_eq_true_eq, decide_eq_false_iff_not, Classical.not_not] at c_82
                  refine z_iconst (v := nI 1) X (by decide) dL_sound_85 ?_
                  refine z_goto (tgt := 90) X dL_sound_86 (by decide) ?_
                  refine z_icmp_ne (tgt := 97) X dL_sound_90 (by decide) (fun c_90 => ?_) (fun c_90 => ?_)
                  · first | exact absurd c_90 (by decide) | exact absurd (by decide) c_90
                  · skip
                    refine z_iconst (v := nI 1) X (by decide) dL_sound_93 ?_
                    refine z_goto (tgt := 98) X dL_sound_94 (by decide) ?_
                    refine z_istore X dL_sound_98 (by decide) ?_
                    refine z_inc1 X dL_sound_100 rfl (by decide) ?_
                    refine z_goto (tgt := 10) X dL_sound_103 (by decide) ?_
                    exact ih_10 (o + 1) w τ (by omega) hL (by omega)
  refine z_iconst (v := nI 0) X (by decide) dL_sound_0 ?_
  refine z_istore_n X dL_sound_1 (by decide) ?_
  refine z_iconst (v := nI 0) X (by decide) dL_sound_2 ?_
  refine z_istore_n X dL_sound_3 (by decide) ?_
  refine z_iconst (v := nI 1) X (by decide) dL_sound_4 ?_
  refine z_istore X dL_sound_5 (by decide) ?_
  refine z_iconst (v := nI 0) X (by decide) dL_sound_7 ?_
  refine z_istore X dL_sound_8 (by decide) ?_
  exact loop_10 (n 3 - 0 + 1) 0 w τ (by omega) hL (by omega)
