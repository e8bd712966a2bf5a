/-! contracts: fill; the net -/
/-- what fill leaves: the pieces of the draft, what is paid, how many code words -/
def zFil (σ σ' : zIn) (ne ni nd : Nat) (lt dd : Nat → Nat) (pl cd vw key : Nat) (packed : Bool) (cdw : Nat → Nat → Int32) (paid many : Nat) (L : List (Nat × Nat)) : Prop :=
  (∀ i, i ≠ 7 → i ≠ 8 → i ≠ 9 → i ≠ 10 → σ' i = σ i) ∧ (packed = true → ∀ p m, p < nd → 1 ≤ m → m ≤ 4 → (p + m ≤ nd → zcode (σ 5) (σ 12) (σ 4) ne key vw p m (cdw p m)) ∧ (nd < p + m → cdw p m = -1)) ∧
  (paid, many) = (if packed then zch (fun n => zLT 1000000000 nd (fun i => zup (lt (dd i)) cd) (fun p m => decide (cdw p m ≠ -1)) 0 n) cd (zsum (fun i => zup (lt (dd i)) pl) nd) nd else (zsum (fun i => zup (lt (dd i)) pl) nd, 0)) ∧
  L = zcut nd (zLT 1000000000 nd (fun i => zup (lt (dd i)) cd) (fun p m => decide (cdw p m ≠ -1))) (fun p m => decide (cdw p m ≠ -1)) 0 many ∧
  σ' 7 4 = nI L.length ∧ σ' 7 5 = nI many ∧ σ' 7 6 = nI paid ∧ (∀ i, i < L.length → σ' 10 i = zwo cdw dd (L.getD i (0, 0))) ∧ L.length ≤ nd ∧ paid ≤ 480 ∧ many ≤ nd
theorem zDr_eq {σ σ' : zIn} {ni nd : Nat} {lt dd : Nat → Nat} (h : zDr σ ni lt nd dd) (h2 : σ' 2 = σ 2) (h3 : σ' 3 = σ 3) (h11 : σ' 11 = σ 11) (h12 : σ' 12 = σ 12) : zDr σ' ni lt nd dd := by
  unfold zDr at *; rw [h2, h3, h11, h12]; exact h
theorem zRl_eq {σ σ' : zIn} {ru pl cd vw : Nat} (h : zRl σ ru pl cd vw) (hr : σ' ru = σ ru) : zRl σ' ru pl cd vw := by
  unfold zRl at *; rw [hr]; exact h
set_option maxHeartbeats 4000000 in
set_option maxRecDepth 100000 in
theorem tX6_fill1 {l : Launch} {D : va_G} {cy : Nat → ClassId} {z0 : zRg} {g : zSh} {σ : zIn} {ru pl cd vw ni nd ne : Nat} {lt dd : Nat → Nat} (key : Nat) (hS : zS g) (hDr : zDr σ ni lt nd dd) (hru : z_ob g ru 7) (hRl : zRl σ ru pl cd vw) (he : σ 2 5 = nI ne) (he2 : ne ≤ 40) (hC : ∀ k, k < ne → zwd (σ 4 k)) (hU : ∀ p m j k, j < ne → k < ne → 1 ≤ m → m ≤ 4 → zmt (σ 5) (σ 12) j p m → zmt (σ 5) (σ 12) k p m → j = k) (hkey : key ≤ 39) (hru9 : ru = 18 ∨ 140 ≤ ru) : z_Ct l D cy z0 MX6_fill [.ref (g.2.1 7), .ref (g.2.1 11), .int (nI key), .ref (g.2.1 ru), .int (zb true)] g σ (fun v g' σ' => v = none ∧ g' = g ∧ ∃ cdw paid many L, zFil σ σ' ne ni nd lt dd pl cd vw key true cdw paid many L) := by
  obtain ⟨hi, hi2, hlt, hd, hd2, hdd⟩ := id hDr
  obtain ⟨r1, r2, r3, r4, r5, r6, r7, r8⟩ := id hRl
  have hpc : zsum (fun i => zup (lt (dd i)) pl) nd ≤ 480 := Nat.le_trans (zsum_le (c := 20) (fun i hi => by have h1 := hlt (dd i) (hdd i hi).2; exact Nat.le_trans (zup_le (by omega) h1.2.1) h1.2.2)) (by omega)
  refine z_ofM (by decide) (z_cr (z_cr (z_ci (z_cr (z_ci z_c0))))) (Nat.le_of_ble_eq_true rfl) ?_
  intro p e s m args below meth c X
  refine z_aload_n X dX6_fill_0 rfl ?_
  refine z_iconst (v := nI 0) X (by decide) dX6_fill_1 ?_
  refine z_puti X fX6_29 (zso_7 hS) rfl dX6_fill_2 ?_
  refine z_aload_n X dX6_fill_5 rfl ?_
  refine z_aload_n X dX6_fill_6 rfl ?_
  refine z_aload_n X dX6_fill_7 rfl ?_
  refine z_aload_n X dX6_fill_8 rfl ?_
  refine z_runV X kX6_50 (tX6_plainCost (lt := lt) (dd := dd) (ni := ni) (nd := nd) (ru := ru) (pl := pl) (cd := cd) (vw := vw) hS (zDr_eq hDr (by rw [z_up_ne (by decide)]) (by rw [z_up_ne (by decide)]) (by rw [z_up_ne (by decide)]) (by rw [z_up_ne (by decide)])) hru (zRl_eq hRl (by rw [z_up_ne (by omega)]))) (zso_7 hS) rfl rfl (Nat.le_of_ble_eq_true rfl) ⟨by decide, by decide⟩ ⟨by decide, by decide⟩ dX6_fill_9 ?_
  rintro _ g1 s1 ⟨rfl, h8, h9⟩
  replace h8 := h8.symm
  subst h8
  replace h9 := h9.symm
  subst h9
  refine z_puti X fX6_32 (zso_7 hS) rfl dX6_fill_12 ?_
  refine z_iload X dX6_fill_15 rfl ?_
  refine z_if_eq (tgt := 39) X dX6_fill_17 (by decide) (fun c_17 => ?_) (fun c_17 => ?_)
  · exact absurd c_17 (by decide)
  · skip
    refine z_aload_n X dX6_fill_20 rfl ?_
    refine z_aload_n X dX6_fill_21 rfl ?_
    refine z_iload_n X dX6_fill_22 rfl ?_
    refine z_aload_n X dX6_fill_23 rfl ?_
    refine z_runV X kX6_54 (tX6_findCodes (ne := ne) (lt := lt) (dd := dd) (ni := ni) (nd := nd) (ru := ru) (pl := pl) (cd := cd) (vw := vw) key hS (zDr_eq hDr (by rw [z_up_ne (by decide), z_up_ne (by decide)]) (by rw [z_up_ne (by decide), z_up_ne (by decide)]) (by rw [z_up_ne (by decide), z_up_ne (by decide)]) (by rw [z_up_ne (by decide), z_up_ne (by decide)])) hru (zRl_eq hRl (by rw [z_up_ne (by omega), z_up_ne (by omega)])) he he2 hC hU hkey (by omega)) (zso_7 hS) rfl rfl (Nat.le_of_ble_eq_true rfl) ⟨by decide, by decide⟩ ⟨by decide, by decide⟩ dX6_fill_24 ?_
    rintro _ g1 s1 ⟨rfl, h8, f1, f2⟩
    obtain rfl := h8.symm
    have q1 : ∀ i, i ≠ 7 → i ≠ 8 → s1 i = σ i := fun i a b => by rw [f1 i b, z_up_ne a, z_up_ne a]
    refine z_aload_n X dX6_fill_27 rfl ?_
    refine z_aload_n X dX6_fill_28 rfl ?_
    refine z_aload_n X dX6_fill_29 rfl ?_
    refine z_runV X kX6_58 (tX6_findLeast (lt := lt) (dd := dd) (ni := ni) (nd := nd) (ru := ru) (pl := pl) (cd := cd) (vw := vw) (us := fun p m => decide (s1 8 (p * 4 + m - 1) ≠ -1)) hS (zDr_eq hDr (q1 2 (by decide) (by decide)) (q1 3 (by decide) (by decide)) (q1 11 (by decide) (by decide)) (q1 12 (by decide) (by decide))) hru (zRl_eq hRl (q1 ru (by omega) (by omega))) (fun p m h1 h2 h3 => ⟨by simp, fun h => by have := f2 p m h1 h2 h3; rcases Nat.lt_or_ge nd (p + m) with q | q; exact absurd (this.2 q) (by simpa using h); exact q⟩) (by omega)) (zso_7 hS) rfl rfl (Nat.le_of_ble_eq_true rfl) ⟨by decide, by decide⟩ ⟨by decide, by decide⟩ dX6_fill_30 ?_
    rintro _ g1 s2 ⟨rfl, h8, l1, l2⟩
    obtain rfl := h8.symm
    refine z_aload_n X dX6_fill_33 rfl ?_
    refine z_aload_n X dX6_fill_34 rfl ?_
    refine z_aload_n X dX6_fill_35 rfl ?_
    refine z_runV X kX6_62 (tX6_chooseCount (T := zLT 1000000000 nd (fun i => zup (lt (dd i)) cd) (fun p m => decide (s1 8 (p * 4 + m - 1) ≠ -1))) (pc := zsum (fun i => zup (lt (dd i)) pl) nd) (nd := nd) (ru := ru) (pl := pl) (cd := cd) (vw := vw) hS (by rw [l1 11 (by decide), q1 11 (by decide) (by decide)]; exact hd) hd2 hru (zRl_eq hRl (by rw [l1 ru (by omega), q1 ru (by omega) (by omega)])) (fun q n a b => ⟨l2 q n a b, zLT_le⟩) (by rw [l1 7 (by decide), f1 7 (by decide)]; rfl) (by omega) (by rw [l1 7 (by decide), f1 7 (by decide)]; rfl) (by omega)) (zso_7 hS) rfl rfl (Nat.le_of_ble_eq_true rfl) ⟨by decide, by decide⟩ ⟨by decide, by decide⟩ dX6_fill_36 ?_
    rintro _ g1 s3 ⟨rfl, h8, m1, m2, m3, m4⟩
    obtain rfl := h8.symm
    have q3 : ∀ i, i ≠ 7 → i ≠ 8 → i ≠ 9 → s3 i = σ i := fun i a b d => by rw [m1 i a, l1 i d, q1 i a b]
    have hz := zch_le (T0 := fun n => zLT 1000000000 nd (fun i => zup (lt (dd i)) cd) (fun p m => decide (s1 8 (p * 4 + m - 1) ≠ -1)) 0 n) (cd := cd) (pc := zsum (fun i => zup (lt (dd i)) pl) nd) nd
    refine z_aload_n X dX6_fill_39 rfl ?_
    refine z_aload_n X dX6_fill_40 rfl ?_
    refine z_aload_n X dX6_fill_41 rfl ?_
    have hln := zcut_len (nd := nd) (T := zLT 1000000000 nd (fun i => zup (lt (dd i)) cd) (fun p m => decide (s1 8 (p * 4 + m - 1) ≠ -1))) (us := fun p m => decide (s1 8 (p * 4 + m - 1) ≠ -1)) nd 0 (zch (fun n => zLT 1000000000 nd (fun i => zup (lt (dd i)) cd) (fun p m => decide (s1 8 (p * 4 + m - 1) ≠ -1)) 0 n) cd (zsum (fun i => zup (lt (dd i)) pl) nd) nd).2 rfl
    refine z_runV X kX6_65 (tX6_cut (many := (zch (fun n => zLT 1000000000 nd (fun i => zup (lt (dd i)) cd) (fun p m => decide (s1 8 (p * 4 + m - 1) ≠ -1)) 0 n) cd (zsum (fun i => zup (lt (dd i)) pl) nd) nd).2) (T := zLT 1000000000 nd (fun i => zup (lt (dd i)) cd) (fun p m => decide (s1 8 (p * 4 + m - 1) ≠ -1))) (us := fun p m => decide (s1 8 (p * 4 + m - 1) ≠ -1)) (cdw := fun p m => s1 8 (p * 4 + m - 1)) (dd := dd) (nd := nd) (ru := ru) hS (by rw [q3 11 (by decide) (by decide) (by decide)]; exact hd) hd2 (fun _ q n a b => ⟨by rw [m1 9 (by decide)]; exact l2 q n a b, zLT_le⟩) (fun _ p m h1 h2 h3 => ⟨by rw [m1 8 (by decide), l1 8 (by decide)]; simp, fun h => by have := f2 p m h1 h2 h3; rcases Nat.lt_or_ge nd (p + m) with q | q; exact absurd (this.2 q) (by simpa using h); exact q⟩) (fun _ p m h1 h2 h3 h4 => by rw [m1 8 (by decide), l1 8 (by decide)]) (fun i hi => by rw [q3 12 (by decide) (by decide) (by decide)]; exact (hdd i hi).1) m4 (by omega)) (zso_7 hS) rfl rfl (Nat.le_of_ble_eq_true rfl) ⟨by decide, by decide⟩ ⟨by decide, by decide⟩ dX6_fill_42 ?_
    rintro _ g1 s4 ⟨rfl, h8, n1, n2, n3, n4⟩
    obtain rfl := h8.symm
    refine z_vret X (by decide) (by decide) rfl dX6_fill_45 ?_
    exact ⟨rfl, rfl, fun p m => s1 8 (p * 4 + m - 1), _, _, _, (fun i a b d e => by rw [n1 i a e]; exact q3 i a b d), (fun _ p m h1 h2 h3 => by have := f2 p m h1 h2 h3; rw [z_up_ne (show (5 : Nat) ≠ 7 by decide), z_up_ne (show (5 : Nat) ≠ 7 by decide), z_up_ne (show (12 : Nat) ≠ 7 by decide), z_up_ne (show (12 : Nat) ≠ 7 by decide), z_up_ne (show (4 : Nat) ≠ 7 by decide), z_up_ne (show (4 : Nat) ≠ 7 by decide)] at this; exact this), rfl, rfl, n3, (by rw [n2 5 (by decide)]; exact m4), (by rw [n2 6 (by decide)]; exact m3), n4, Nat.le_trans hln (Nat.sub_le _ _), Nat.le_trans hz.1 hpc, hz.2⟩

set_option maxHeartbeats 4000000 in
set_option maxRecDepth 100000 in
theorem tX6_fill0 {l : Launch} {D : va_G} {cy : Nat → ClassId} {z0 : zRg} {g : zSh} {σ : zIn} {ru pl cd vw ni nd ne : Nat} {lt dd : Nat → Nat} (key : Nat) (hS : zS g) (hDr : zDr σ ni lt nd dd) (hru : z_ob g ru 7) (hRl : zRl σ ru pl cd vw) (he : σ 2 5 = nI ne) (he2 : ne ≤ 40) (hC : ∀ k, k < ne → zwd (σ 4 k)) (hU : ∀ p m j k, j < ne → k < ne → 1 ≤ m → m ≤ 4 → zmt (σ 5) (σ 12) j p m → zmt (σ 5) (σ 12) k p m → j = k) (hkey : key ≤ 39) (hru9 : ru = 18 ∨ 140 ≤ ru) : z_Ct l D cy z0 MX6_fill [.ref (g.2.1 7), .ref (g.2.1 11), .int (nI key), .ref (g.2.1 ru), .int (zb false)] g σ (fun v g' σ' => v = none ∧ g' = g ∧ ∃ cdw paid many L, zFil σ σ' ne ni nd lt dd pl cd vw key false cdw paid many L) := by
  obtain ⟨hi, hi2, hlt, hd, hd2, hdd⟩ := id hDr
  obtain ⟨r1, r2, r3, r4, r5, r6, r7, r8⟩ := id hRl
  have hpc : zsum (fun i => zup (lt (dd i)) pl) nd ≤ 480 := Nat.le_trans (zsum_le (c := 20) (fun i hi => by have h1 := hlt (dd i) (hdd i hi).2; exact Nat.le_trans (zup_le (by omega) h1.2.1) h1.2.2)) (by omega)
  refine z_ofM (by decide) (z_cr (z_cr (z_ci (z_cr (z_ci z_c0))))) (Nat.le_of_ble_eq_true rfl) ?_
  intro p e s m args below meth c X
  refine z_aload_n X dX6_fill_0 rfl ?_
  refine z_iconst (v := nI 0) X (by decide) dX6_fill_1 ?_
  refine z_puti X fX6_29 (zso_7 hS) rfl dX6_fill_2 ?_
  refine z_aload_n X dX6_fill_5 rfl ?_
  refine z_aload_n X dX6_fill_6 rfl ?_
  refine z_aload_n X dX6_fill_7 rfl ?_
  refine z_aload_n X dX6_fill_8 rfl ?_
  refine z_runV X kX6_50 (tX6_plainCost (lt := lt) (dd := dd) (ni := ni) (nd := nd) (ru := ru) (pl := pl) (cd := cd) (vw := vw) hS (zDr_eq hDr (by rw [z_up_ne (by decide)]) (by rw [z_up_ne (by decide)]) (by rw [z_up_ne (by decide)]) (by rw [z_up_ne (by decide)])) hru (zRl_eq hRl (by rw [z_up_ne (by omega)]))) (zso_7 hS) rfl rfl (Nat.le_of_ble_eq_true rfl) ⟨by decide, by decide⟩ ⟨by decide, by decide⟩ dX6_fill_9 ?_
  rintro _ g1 s1 ⟨rfl, h8, h9⟩
  replace h8 := h8.symm
  subst h8
  replace h9 := h9.symm
  subst h9
  refine z_puti X fX6_32 (zso_7 hS) rfl dX6_fill_12 ?_
  refine z_iload X dX6_fill_15 rfl ?_
  refine z_if_eq (tgt := 39) X dX6_fill_17 (by decide) (fun c_17 => ?_) (fun c_17 => ?_)
  · skip
    refine z_aload_n X dX6_fill_39 rfl ?_
    refine z_aload_n X dX6_fill_40 rfl ?_
    refine z_aload_n X dX6_fill_41 rfl ?_
    have hln := zcut_len (nd := nd) (T := zLT 1000000000 nd (fun i => zup (lt (dd i)) cd) (fun p m => decide ((-1 : Int32) ≠ -1))) (us := fun p m => decide ((-1 : Int32) ≠ -1)) nd 0 0 rfl
    refine z_runV X kX6_65 (tX6_cut (many := 0) (T := zLT 1000000000 nd (fun i => zup (lt (dd i)) cd) (fun p m => decide ((-1 : Int32) ≠ -1))) (us := fun p m => decide ((-1 : Int32) ≠ -1)) (cdw := fun _ _ => -1) (dd := dd) (nd := nd) (ru := ru) hS (by rw [z_up_ne (by decide), z_up_ne (by decide)]; exact hd) hd2 (fun h => absurd h (Nat.lt_irrefl 0)) (fun h => absurd h (Nat.lt_irrefl 0)) (fun h => absurd h (Nat.lt_irrefl 0)) (fun i hi => by rw [z_up_ne (by decide), z_up_ne (by decide)]; exact (hdd i hi).1) rfl (by decide)) (zso_7 hS) rfl rfl (Nat.le_of_ble_eq_true rfl) ⟨by decide, by decide⟩ ⟨by decide, by decide⟩ dX6_fill_42 ?_
    rintro _ g1 s4 ⟨rfl, h8, n1, n2, n3, n4⟩
    obtain rfl := h8.symm
    refine z_vret X (by decide) (by decide) rfl dX6_fill_45 ?_
    exact ⟨rfl, rfl, fun _ _ => -1, zsum (fun i => zup (lt (dd i)) pl) nd, 0, _, (fun i a b d e => by rw [n1 i a e, z_up_ne a, z_up_ne a]), (fun h => by cases h), rfl, rfl, n3, (by rw [n2 5 (by decide)]; rfl), (by rw [n2 6 (by decide)]; rfl), n4, (by omega), (by omega), (by omega)⟩
  · exact absurd rfl c_17

def zX (r : Value) (g' : zSh) (σ' : zIn) : Option Value → zSh → zIn → Prop := fun v g σ => v = some r ∧ g = g' ∧ σ = σ'
set_option maxHeartbeats 4000000 in
set_option maxRecDepth 100000 in
theorem tX4_officeAt {l : Launch} {D : va_G} {cy : Nat → ClassId} {z0 : zRg} {g : zSh} {σ : zIn} {no : Nat} (k : Nat) (hS : zS g) (hO : zO g no) (hno : σ 13 4 = nI no) (hk : k < no) : z_Ct l D cy z0 MX4_officeAt [.ref (g.2.1 13), .int (nI k)] g σ (zX (.ref (g.2.1 (100 + k))) g σ) := by
  have hF := hO.2.1 k hk
  have hle := hO.1
  refine z_ofM (by decide) (z_cr (z_ci z_c0)) (Nat.le_of_ble_eq_true rfl) ?_
  intro p e s m args below meth c X
  refine z_iload_n X dX4_officeAt_0 rfl ?_
  refine z_iconst (v := nI 0) X (by decide) dX4_officeAt_1 ?_
  refine z_aload_n X dX4_officeAt_2 rfl ?_
  refine z_geti X fX4_30 (zso_13 hS) rfl dX4_officeAt_3 ?_
  try simp (disch := omega) only [z_up_app, z_put_app, reduceIte, Nat.reduceEqDiff, hno]
  refine z_iconst (v := nI 1) X (by decide) dX4_officeAt_6 ?_
  refine z_isub X dX4_officeAt_7 ?_
  refine z_runS X kX4_41 (tOut (nI k) (by omega)) rfl rfl (Nat.le_of_ble_eq_true rfl) ⟨by decide, by decide⟩ ⟨by decide, by decide⟩ dX4_officeAt_8 ?_
  rintro _ g1 s1 ⟨rfl, h8, h9⟩
  replace h8 := h8.symm
  subst h8
  replace h9 := h9.symm
  subst h9
  rw [zin_nI hk (by omega)]
  refine z_if_ne (tgt := 23) X dX4_officeAt_11 (by decide) (fun c_11 => ?_) (fun c_11 => ?_)
  · exact absurd rfl c_11
  · skip
    try simp (disch := omega) only [zk0, nI_leI, nI_ltI, nI_eq, zbk_notn, zbk_not, zbk_n0, zbk_0, zb_0, zb_n0, zb_not, zb_notn, Bool.not_eq_false, Bool.not_eq_true, Bool.not_eq_true', Bool.not_eq_false', decide_eq_true_eq, decide_eq_false_iff_not, Classical.not_not] at c_11
    refine z_iload_n X dX4_officeAt_14 rfl ?_
    refine z_aload_n X dX4_officeAt_15 rfl ?_
    refine z_getr2 X fX4_11 (zso_13 hS) (zsr_13_0 hS) rfl dX4_officeAt_16 ?_
    refine z_alen X (t := 5) (by decide) (zsa_14 hS) dX4_officeAt_19 ?_
    refine z_icmp_lt (tgt := 27) X dX4_officeAt_20 (by decide) (fun c_20 => ?_) (fun c_20 => ?_)
    · skip
      try simp (disch := omega) only [zk0, nI_leI, nI_ltI, nI_eq, zbk_notn, zbk_not, zbk_n0, zbk_0, zb_0, zb_n0, zb_not, zb_notn, Bool.not_eq_false, Bool.not_eq_true, Bool.not_eq_true', Bool.not_eq_false', decide_eq_true_eq, decide_eq_false_iff_not, Classical.not_not] at c_20
      refine z_aload_n X dX4_officeAt_27 rfl ?_
      refine z_getr2 X fX4_11 (zso_13 hS) (zsr_13_0 hS) rfl dX4_officeAt_28 ?_
      refine z_iload_n X dX4_officeAt_31 rfl ?_
      refine z_aaldM X (t := 5) (by decide) rfl (zsa_14 hS) (by omega) (by omega) (hF.2.2.2) dX4_officeAt_32 ?_
      refine z_aret X (by decide) (by decide) rfl (Or.inl ⟨_, rfl⟩) (Or.inr ⟨_, rfl⟩) dX4_officeAt_33 ?_
      exact ⟨rfl, rfl, rfl⟩
    · skip
      try simp (disch := omega) only [zk0, nI_leI, nI_ltI, nI_eq, zbk_notn, zbk_not, zbk_n0, zbk_0, zb_0, zb_n0, zb_not, zb_notn, Bool.not_eq_false, Bool.not_eq_true, Bool.not_eq_true', Bool.not_eq_false', decide_eq_true_eq, decide_eq_false_iff_not, Classical.not_not] at c_20
      omega

set_option maxHeartbeats 4000000 in
set_option maxRecDepth 100000 in
theorem tX4_officeAtN {l : Launch} {D : va_G} {cy : Nat → ClassId} {z0 : zRg} {g : zSh} {σ : zIn} {no : Nat} (i : Int32) (hS : zS g) (hO : zO g no) (hno : σ 13 4 = nI no) (hk : zin i no = false) : z_Ct l D cy z0 MX4_officeAt [.ref (g.2.1 13), .int i] g σ (zX .null g σ) := by
  have hle := hO.1
  refine z_ofM (by decide) (z_cr (z_ci z_c0)) (Nat.le_of_ble_eq_true rfl) ?_
  intro p e s m args below meth c X
  refine z_iload_n X dX4_officeAt_0 rfl ?_
  refine z_iconst (v := nI 0) X (by decide) dX4_officeAt_1 ?_
  refine z_aload_n X dX4_officeAt_2 rfl ?_
  refine z_geti X fX4_30 (zso_13 hS) rfl dX4_officeAt_3 ?_
  try simp (disch := omega) only [z_up_app, z_put_app, reduceIte, Nat.reduceEqDiff, hno]
  refine z_iconst (v := nI 1) X (by decide) dX4_officeAt_6 ?_
  refine z_isub X dX4_officeAt_7 ?_
  refine z_runS X kX4_41 (tOut i (by omega)) rfl rfl (Nat.le_of_ble_eq_true rfl) ⟨by decide, by decide⟩ ⟨by decide, by decide⟩ dX4_officeAt_8 ?_
  rintro _ g1 s1 ⟨rfl, h8, h9⟩
  replace h8 := h8.symm
  subst h8
  replace h9 := h9.symm
  subst h9
  rw [hk]
  refine z_if_ne (tgt := 23) X dX4_officeAt_11 (by decide) (fun c_11 => ?_) (fun c_11 => ?_)
  · skip
    try simp (disch := omega) only [zk0, nI_leI, nI_ltI, nI_eq, zbk_notn, zbk_not, zbk_n0, zbk_0, zb_0, zb_n0, zb_not, zb_notn, Bool.not_eq_false, Bool.not_eq_true, Bool.not_eq_true', Bool.not_eq_false', decide_eq_true_eq, decide_eq_false_iff_not, Classical.not_not] at c_11
    refine z_null X dX4_officeAt_23 ?_
    refine z_goto (tgt := 33) X dX4_officeAt_24 (by decide) ?_
    refine z_aret X (by decide) (by decide) rfl (Or.inl ⟨_, rfl⟩) (Or.inl rfl) dX4_officeAt_33 ?_
    exact ⟨rfl, rfl, rfl⟩
  · exact absurd c_11 (by decide)

set_option maxHeartbeats 4000000 in
set_option maxRecDepth 100000 in
theorem tX4_cableAt {l : Launch} {D : va_G} {cy : Nat → ClassId} {z0 : zRg} {g : zSh} {σ : zIn} {nc : Nat} (k : Nat) (hS : zS g) (hK : zC g nc) (hnc : σ 13 5 = nI nc) (hk : k < nc) : z_Ct l D cy z0 MX4_cableAt [.ref (g.2.1 13), .int (nI k)] g σ (zX (.ref (g.2.1 (120 + k))) g σ) := by
  have hF := hK.2.1 k hk
  have hle := hK.1
  refine z_ofM (by decide) (z_cr (z_ci z_c0)) (Nat.le_of_ble_eq_true rfl) ?_
  intro p e s m args below meth c X
  refine z_iload_n X dX4_cableAt_0 rfl ?_
  refine z_iconst (v := nI 0) X (by decide) dX4_cableAt_1 ?_
  refine z_aload_n X dX4_cableAt_2 rfl ?_
  refine z_geti X fX4_34 (zso_13 hS) rfl dX4_cableAt_3 ?_
  try simp (disch := omega) only [z_up_app, z_put_app, reduceIte, Nat.reduceEqDiff, hnc]
  refine z_iconst (v := nI 1) X (by decide) dX4_cableAt_6 ?_
  refine z_isub X dX4_cableAt_7 ?_
  refine z_runS X kX4_41 (tOut (nI k) (by omega)) rfl rfl (Nat.le_of_ble_eq_true rfl) ⟨by decide, by decide⟩ ⟨by decide, by decide⟩ dX4_cableAt_8 ?_
  rintro _ g1 s1 ⟨rfl, h8, h9⟩
  replace h8 := h8.symm
  subst h8
  replace h9 := h9.symm
  subst h9
  rw [zin_nI hk (by omega)]
  refine z_if_ne (tgt := 23) X dX4_cableAt_11 (by decide) (fun c_11 => ?_) (fun c_11 => ?_)
  · exact absurd rfl c_11
  · skip
    try simp (disch := omega) only [zk0, nI_leI, nI_ltI, nI_eq, zbk_notn, zbk_not, zbk_n0, zbk_0, zb_0, zb_n0, zb_not, zb_notn, Bool.not_eq_false, Bool.not_eq_true, Bool.not_eq_true', Bool.not_eq_false', decide_eq_true_eq, decide_eq_false_iff_not, Classical.not_not] at c_11
    refine z_iload_n X dX4_cableAt_14 rfl ?_
    refine z_aload_n X dX4_cableAt_15 rfl ?_
    refine z_getr2 X fX4_19 (zso_13 hS) (zsr_13_1 hS) rfl dX4_cableAt_16 ?_
    refine z_alen X (t := 3) (by decide) (zsa_15 hS) dX4_cableAt_19 ?_
    refine z_icmp_lt (tgt := 27) X dX4_cableAt_20 (by decide) (fun c_20 => ?_) (fun c_20 => ?_)
    · skip
      try simp (disch := omega) only [zk0, nI_leI, nI_ltI, nI_eq, zbk_notn, zbk_not, zbk_n0, zbk_0, zb_0, zb_n0, zb_not, zb_notn, Bool.not_eq_false, Bool.not_eq_true, Bool.not_eq_true', Bool.not_eq_false', decide_eq_true_eq, decide_eq_false_iff_not, Classical.not_not] at c_20
      refine z_aload_n X dX4_cableAt_27 rfl ?_
      refine z_getr2 X fX4_19 (zso_13 hS) (zsr_13_1 hS) rfl dX4_cableAt_28 ?_
      refine z_iload_n X dX4_cableAt_31 rfl ?_
      refine z_aaldM X (t := 3) (by decide) rfl (zsa_15 hS) (by omega) (by omega) (hF.2) dX4_cableAt_32 ?_
      refine z_aret X (by decide) (by decide) rfl (Or.inl ⟨_, rfl⟩) (Or.inr ⟨_, rfl⟩) dX4_cableAt_33 ?_
      exact ⟨rfl, rfl, rfl⟩
    · skip
      try simp (disch := omega) only [zk0, nI_leI, nI_ltI, nI_eq, zbk_notn, zbk_not, zbk_n0, zbk_0, zb_0, zb_n0, zb_not, zb_notn, Bool.not_eq_false, Bool.not_eq_true, Bool.not_eq_true', Bool.not_eq_false', decide_eq_true_eq, decide_eq_false_iff_not, Classical.not_not] at c_20
      omega

set_option maxHeartbeats 4000000 in
set_option maxRecDepth 100000 in
theorem tX4_cableAtN {l : Launch} {D : va_G} {cy : Nat → ClassId} {z0 : zRg} {g : zSh} {σ : zIn} {nc : Nat} (i : Int32) (hS : zS g) (hK : zC g nc) (hnc : σ 13 5 = nI nc) (hk : zin i nc = false) : z_Ct l D cy z0 MX4_cableAt [.ref (g.2.1 13), .int i] g σ (zX .null g σ) := by
  have hle := hK.1
  refine z_ofM (by decide) (z_cr (z_ci z_c0)) (Nat.le_of_ble_eq_true rfl) ?_
  intro p e s m args below meth c X
  refine z_iload_n X dX4_cableAt_0 rfl ?_
  refine z_iconst (v := nI 0) X (by decide) dX4_cableAt_1 ?_
  refine z_aload_n X dX4_cableAt_2 rfl ?_
  refine z_geti X fX4_34 (zso_13 hS) rfl dX4_cableAt_3 ?_
  try simp (disch := omega) only [z_up_app, z_put_app, reduceIte, Nat.reduceEqDiff, hnc]
  refine z_iconst (v := nI 1) X (by decide) dX4_cableAt_6 ?_
  refine z_isub X dX4_cableAt_7 ?_
  refine z_runS X kX4_41 (tOut i (by omega)) rfl rfl (Nat.le_of_ble_eq_true rfl) ⟨by decide, by decide⟩ ⟨by decide, by decide⟩ dX4_cableAt_8 ?_
  rintro _ g1 s1 ⟨rfl, h8, h9⟩
  replace h8 := h8.symm
  subst h8
  replace h9 := h9.symm
  subst h9
  rw [hk]
  refine z_if_ne (tgt := 23) X dX4_cableAt_11 (by decide) (fun c_11 => ?_) (fun c_11 => ?_)
  · skip
    try simp (disch := omega) only [zk0, nI_leI, nI_ltI, nI_eq, zbk_notn, zbk_not, zbk_n0, zbk_0, zb_0, zb_n0, zb_not, zb_notn, Bool.not_eq_false, Bool.not_eq_true, Bool.not_eq_true', Bool.not_eq_false', decide_eq_true_eq, decide_eq_false_iff_not, Classical.not_not] at c_11
    refine z_null X dX4_cableAt_23 ?_
    refine z_goto (tgt := 33) X dX4_cableAt_24 (by decide) ?_
    refine z_aret X (by decide) (by decide) rfl (Or.inl ⟨_, rfl⟩) (Or.inl rfl) dX4_cableAt_33 ?_
    exact ⟨rfl, rfl, rfl⟩
  · exact absurd c_11 (by decide)

set_option maxHeartbeats 4000000 in
set_option maxRecDepth 100000 in
theorem tX4_costOf {l : Launch} {D : va_G} {cy : Nat → ClassId} {z0 : zRg} {g : zSh} {σ : zIn} {i : Nat} {rr : Nat} (ho : z_ob g i 1) (hr : σ i 2 = nI rr) : z_Ct l D cy z0 MX4_costOf [.ref (g.2.1 i)] g σ (zI (nI (rr * 16 + 1)) g σ) := by
  refine z_ofM (by decide) (z_cr z_c0) (Nat.le_of_ble_eq_true rfl) ?_
  intro p e s m args below meth c X
  refine z_aload_n X dX4_costOf_0 rfl ?_
  refine z_geti X fX4_73 (ho) rfl dX4_costOf_1 ?_
  try simp (disch := omega) only [z_up_app, z_put_app, reduceIte, Nat.reduceEqDiff, hr]
  refine z_bipush (v := nI 16) X (by decide) dX4_costOf_4 ?_
  refine z_imulN X dX4_costOf_6 ?_
  refine z_iconst (v := nI 1) X (by decide) dX4_costOf_7 ?_
  refine z_iaddN X dX4_costOf_8 ?_
  refine z_iret X (by decide) (by decide) rfl dX4_costOf_9 ?_
  exact zI_e rfl rfl rfl

set_option maxHeartbeats 4000000 in
set_option maxRecDepth 100000 in
theorem tX4_costFrom {l : Launch} {D : va_G} {cy : Nat → ClassId} {z0 : zRg} {g : zSh} {σ : zIn} (k : Nat) (hS : zS g) (hk : k < 8) : z_Ct l D cy z0 MX4_costFrom [.ref (g.2.1 13), .int (nI k)] g σ (zI (σ 16 k) g σ) := by
  refine z_ofM (by decide) (z_cr (z_ci z_c0)) (Nat.le_of_ble_eq_true rfl) ?_
  intro p e s m args below meth c X
  refine z_iload_n X dX4_costFrom_0 rfl ?_
  refine z_iconst (v := nI 0) X (by decide) dX4_costFrom_1 ?_
  refine z_aload_n X dX4_costFrom_2 rfl ?_
  refine z_getr2 X fX4_23 (zso_13 hS) (zsr_13_2 hS) rfl dX4_costFrom_3 ?_
  refine z_alen X (t := 0) (by decide) (zsa_16 hS) dX4_costFrom_6 ?_
  refine z_iconst (v := nI 1) X (by decide) dX4_costFrom_7 ?_
  refine z_isub X dX4_costFrom_8 ?_
  refine z_runS X kX4_41 (tOut (nI k) (by omega)) rfl rfl (Nat.le_of_ble_eq_true rfl) ⟨by decide, by decide⟩ ⟨by decide, by decide⟩ dX4_costFrom_9 ?_
  rintro _ g1 s1 ⟨rfl, h8, h9⟩
  replace h8 := h8.symm
  subst h8
  replace h9 := h9.symm
  subst h9
  rw [zin_nI hk (by omega)]
  refine z_if_eq (tgt := 20) X dX4_costFrom_12 (by decide) (fun c_12 => ?_) (fun c_12 => ?_)
  · skip
    try simp (disch := omega) only [zk0, nI_leI, nI_ltI, nI_eq, zbk_notn, zbk_not, zbk_n0, zbk_0, zb_0, zb_n0, zb_not, zb_notn, Bool.not_eq_false, Bool.not_eq_true, Bool.not_eq_true', Bool.not_eq_false', decide_eq_true_eq, decide_eq_false_iff_not, Classical.not_not] at c_12
    refine z_aload_n X dX4_costFrom_20 rfl ?_
    refine z_getr2 X fX4_23 (zso_13 hS) (zsr_13_2 hS) rfl dX4_costFrom_21 ?_
    refine z_iload_n X dX4_costFrom_24 rfl ?_
    refine z_ialdN X (zsa_16 hS) (by omega) (by omega) dX4_costFrom_25 ?_
    refine z_iret X (by decide) (by decide) rfl dX4_costFrom_26 ?_
    exact zI_e rfl rfl rfl
  · exact absurd rfl c_12

set_option maxHeartbeats 4000000 in
set_option maxRecDepth 100000 in
theorem tX4_setCost {l : Launch} {D : va_G} {cy : Nat → ClassId} {z0 : zRg} {g : zSh} {σ : zIn} (k : Nat) (v : Int32) (hS : zS g) (hk : k < 8) : z_Ct l D cy z0 MX4_setCost [.ref (g.2.1 13), .int (nI k), .int v] g σ (zN g (z_up σ 16 k v)) := by
  refine z_ofM (by decide) (z_cr (z_ci (z_ci z_c0))) (Nat.le_of_ble_eq_true rfl) ?_
  intro p e s m args below meth c X
  refine z_iload_n X dX4_setCost_0 rfl ?_
  refine z_iconst (v := nI 0) X (by decide) dX4_setCost_1 ?_
  refine z_aload_n X dX4_setCost_2 rfl ?_
  refine z_getr2 X fX4_23 (zso_13 hS) (zsr_13_2 hS) rfl dX4_setCost_3 ?_
  refine z_alen X (t := 0) (by decide) (zsa_16 hS) dX4_setCost_6 ?_
  refine z_iconst (v := nI 1) X (by decide) dX4_setCost_7 ?_
  refine z_isub X dX4_setCost_8 ?_
  refine z_runS X kX4_41 (tOut (nI k) (by omega)) rfl rfl (Nat.le_of_ble_eq_true rfl) ⟨by decide, by decide⟩ ⟨by decide, by decide⟩ dX4_setCost_9 ?_
  rintro _ g1 s1 ⟨rfl, h8, h9⟩
  replace h8 := h8.symm
  subst h8
  replace h9 := h9.symm
  subst h9
  rw [zin_nI hk (by omega)]
  refine z_if_ne (tgt := 22) X dX4_setCost_12 (by decide) (fun c_12 => ?_) (fun c_12 => ?_)
  · exact absurd rfl c_12
  · skip
    try simp (disch := omega) only [zk0, nI_leI, nI_ltI, nI_eq, zbk_notn, zbk_not, zbk_n0, zbk_0, zb_0, zb_n0, zb_not, zb_notn, Bool.not_eq_false, Bool.not_eq_true, Bool.not_eq_true', Bool.not_eq_false', decide_eq_true_eq, decide_eq_false_iff_not, Classical.not_not] at c_12
    refine z_aload_n X dX4_setCost_15 rfl ?_
    refine z_getr2 X fX4_23 (zso_13 hS) (zsr_13_2 hS) rfl dX4_setCost_16 ?_
    refine z_iload_n X dX4_setCost_19 rfl ?_
    refine z_iload_n X dX4_setCost_20 rfl ?_
    refine z_iastN X (zsa_16 hS) (by omega) (by omega) dX4_setCost_21 ?_
    refine z_vret X (by decide) (by decide) rfl dX4_setCost_22 ?_
    exact ⟨rfl, rfl, rfl⟩

/-- the cables: their offices, rates, speeds, which are broken -/
def zCb (σ : zIn) (nc no : Nat) (ad ot rt sp : Nat → Nat) (br : Nat → Bool) : Prop := ∀ c, c < nc → σ (120 + c) 0 = nI (ad c) ∧ ad c < no ∧ σ (120 + c) 1 = nI (ot c) ∧ ot c < no ∧ ad c ≠ ot c ∧ σ (120 + c) 2 = nI (rt c) ∧ 1 ≤ rt c ∧ rt c ≤ 100 ∧ σ (120 + c) 3 = nI (sp c) ∧ 1 ≤ sp c ∧ sp c ≤ 20 ∧ σ (120 + c) 4 = zb (br c)
def zoe (ad ot : Nat → Nat) (c a : Nat) : Nat := if a = ad c then ot c else ad c
def zlo (d : Nat → Nat) (a b w : Nat) : Nat → Nat := fun v => if v = a ∧ d b + w < d a then d b + w else d v
def zr1 (ad ot rt : Nat → Nat) (br : Nat → Bool) (d : Nat → Nat) (c : Nat) : Nat → Nat := if br c then d else zlo (zlo d (ad c) (ot c) (rt c * 16 + 1)) (ot c) (ad c) (rt c * 16 + 1)
def zrd (ad ot rt : Nat → Nat) (br : Nat → Bool) (d : Nat → Nat) : Nat → Nat → Nat
  | 0 => d
  | c + 1 => zr1 ad ot rt br (zrd ad ot rt br d c) c
def zrs (ad ot rt : Nat → Nat) (br : Nat → Bool) (nc : Nat) (d : Nat → Nat) : Nat → Nat → Nat
  | 0 => d
  | r + 1 => zrd ad ot rt br (zrs ad ot rt br nc d r) nc
def zd0 (B to : Nat) : Nat → Nat := fun v => if v = to then 0 else B
/-- row 16 holds the costs d -/
def zco (σ : zIn) (d : Nat → Nat) : Prop := ∀ v, v < 8 → σ 16 v = nI (d v) ∧ d v ≤ 1000000000
theorem zco_lo {σ : zIn} {d : Nat → Nat} {a b w : Nat} (h : zco σ d) (ha : a < 8) (hb : b < 8) (hlt : d b + w < d a) : zco (z_up σ 16 a (nI (d b + w))) (zlo d a b w) := by
  intro v hv
  have h1 := h v hv
  have h2 := h a ha
  unfold zlo
  by_cases e : v = a
  · subst e; rw [if_pos ⟨rfl, hlt⟩]; exact ⟨by simp only [z_up_app, reduceIte], by omega⟩
  · rw [if_neg (fun q => e q.1)]; simp only [z_up_app, reduceIte, if_neg e]; exact h1
theorem zlo_no {d : Nat → Nat} {a b w : Nat} (h : ¬ d b + w < d a) : zlo d a b w = d := by
  funext v; unfold zlo; rw [if_neg (fun q => h q.2)]
def zfr (σ σ' : zIn) : Prop := ∀ i, i ≠ 16 → σ' i = σ i
set_option maxHeartbeats 4000000 in
set_option maxRecDepth 100000 in
theorem tX4_lowerCost {l : Launch} {D : va_G} {cy : Nat → ClassId} {z0 : zRg} {g : zSh} {σ : zIn} {nc no : Nat} {ad ot rt sp : Nat → Nat} {br : Nat → Bool} {d : Nat → Nat} (c9 a : Nat) (hS : zS g) (hK : zC g nc) (hnc : σ 13 5 = nI nc) (hcb : zCb σ nc no ad ot rt sp br) (hno8 : no ≤ 8) (hd : zco σ d) (hc : c9 < nc) (ha : a = ad c9 ∨ a = ot c9) : z_Ct l D cy z0 MX4_lowerCost [.ref (g.2.1 13), .int (nI a), .ref (g.2.1 (120 + c9))] g σ (fun v g' σ' => v = none ∧ g' = g ∧ zfr σ σ' ∧ zco σ' (zlo d a (zoe ad ot c9 a) (rt c9 * 16 + 1))) := by
  have hF := hK.2.1 c9 hc
  obtain ⟨b1, b2, b3, b4, b5, b6, b7, b8, b9, b10, b11, b12⟩ := hcb c9 hc
  have ha8 : a < 8 := by omega
  have ho8 : zoe ad ot c9 a < 8 := by unfold zoe; split <;> omega
  have eo : (if nI a = σ (120 + c9) 0 then σ (120 + c9) 1 else σ (120 + c9) 0) = nI (zoe ad ot c9 a) := by
    rw [b1, b3]; unfold zoe
    by_cases e : a = ad c9
    · rw [if_pos (by rw [e]), if_pos e]
    · rw [if_neg (fun q => e ((nI_eq (by omega) (by omega)).mp q)), if_neg e]
  have hd1 := hd a ha8
  have hd2 := hd (zoe ad ot c9 a) ho8
  refine z_ofM (by decide) (z_cr (z_ci (z_cr z_c0))) (Nat.le_of_ble_eq_true rfl) ?_
  intro p e s m args below meth c X
  refine z_aload_n X dX4_lowerCost_0 rfl ?_
  refine z_aload_n X dX4_lowerCost_1 rfl ?_
  refine z_iload_n X dX4_lowerCost_2 rfl ?_
  refine z_runV X kX4_70 (tX1_otherEnd (nI a) hF.1) (hF.1) rfl rfl (Nat.le_of_ble_eq_true rfl) ⟨by decide, by decide⟩ ⟨by decide, by decide⟩ dX4_lowerCost_3 ?_
  rintro _ g1 s1 ⟨rfl, h8, h9⟩
  replace h8 := h8.symm
  subst h8
  replace h9 := h9.symm
  subst h9
  rw [eo]
  refine z_runV X kX4_97 (tX4_costFrom (zoe ad ot c9 a) hS ho8) (zso_13 hS) rfl rfl (Nat.le_of_ble_eq_true rfl) ⟨by decide, by decide⟩ ⟨by decide, by decide⟩ dX4_lowerCost_6 ?_
  rintro _ g1 s1 ⟨rfl, h8, h9⟩
  replace h8 := h8.symm
  subst h8
  replace h9 := h9.symm
  subst h9
  rw [hd2.1]
  refine z_aload_n X dX4_lowerCost_9 rfl ?_
  refine z_runS X kX4_100 (tX4_costOf hF.1 b6) rfl rfl (Nat.le_of_ble_eq_true rfl) ⟨by decide, by decide⟩ ⟨by decide, by decide⟩ dX4_lowerCost_10 ?_
  rintro _ g1 s1 ⟨rfl, h8, h9⟩
  replace h8 := h8.symm
  subst h8
  replace h9 := h9.symm
  subst h9
  refine z_iaddN X dX4_lowerCost_13 ?_
  refine z_istore_n X dX4_lowerCost_14 (by decide) ?_
  refine z_iload_n X dX4_lowerCost_15 rfl ?_
  refine z_aload_n X dX4_lowerCost_16 rfl ?_
  refine z_iload_n X dX4_lowerCost_17 rfl ?_
  refine z_runV X kX4_97 (tX4_costFrom a hS ha8) (zso_13 hS) rfl rfl (Nat.le_of_ble_eq_true rfl) ⟨by decide, by decide⟩ ⟨by decide, by decide⟩ dX4_lowerCost_18 ?_
  rintro _ g1 s1 ⟨rfl, h8, h9⟩
  replace h8 := h8.symm
  subst h8
  replace h9 := h9.symm
  subst h9
  rw [hd1.1]
  refine z_icmp_ge (tgt := 30) X dX4_lowerCost_21 (by decide) (fun c_21 => ?_) (fun c_21 => ?_)
  · skip
    try simp (disch := omega) only [zk0, nI_leI, nI_ltI, nI_eq, zbk_notn, zbk_not, zbk_n0, zbk_0, zb_0, zb_n0, zb_not, zb_notn, Bool.not_eq_false, Bool.not_eq_true, Bool.not_eq_true', Bool.not_eq_false', decide_eq_true_eq, decide_eq_false_iff_not, Classical.not_not] at c_21
    refine z_vret X (by decide) (by decide) rfl dX4_lowerCost_30 ?_
    first
      | exact ⟨rfl, rfl, fun i h => by rw [z_up_ne h], zco_lo hd ha8 ho8 (by omega)⟩
      | exact ⟨rfl, rfl, fun _ _ => rfl, by rw [zlo_no (by omega)]; exact hd⟩
  · skip
    try simp (disch := omega) only [zk0, nI_leI, nI_ltI, nI_eq, zbk_notn, zbk_not, zbk_n0, zbk_0, zb_0, zb_n0, zb_not, zb_notn, Bool.not_eq_false, Bool.not_eq_true, Bool.not_eq_true', Bool.not_eq_false', decide_eq_true_eq, decide_eq_false_iff_not, Classical.not_not] at c_21
    refine z_aload_n X dX4_lowerCost_24 rfl ?_
    refine z_iload_n X dX4_lowerCost_25 rfl ?_
    refine z_iload_n X dX4_lowerCost_26 rfl ?_
    refine z_runV X kX4_83 (tX4_setCost a _ hS ha8) (zso_13 hS) rfl rfl (Nat.le_of_ble_eq_true rfl) ⟨by decide, by decide⟩ ⟨by decide, by decide⟩ dX4_lowerCost_27 ?_
    rintro _ g1 s1 ⟨rfl, h8, h9⟩
    replace h8 := h8.symm
    subst h8
    replace h9 := h9.symm
    subst h9
    refine z_vret X (by decide) (by decide) rfl dX4_lowerCost_30 ?_
    first
      | exact ⟨rfl, rfl, fun i h => by rw [z_up_ne h], zco_lo hd ha8 ho8 (by omega)⟩
      | exact ⟨rfl, rfl, fun _ _ => rfl, by rw [zlo_no (by omega)]; exact hd⟩

theorem zCb_eq {σ σ' : zIn} {nc no : Nat} {ad ot rt sp : Nat → Nat} {br : Nat → Bool} (h : zCb σ nc no ad ot rt sp br) (hf : ∀ c, c < nc → ∀ k, k ≤ 4 → σ' (120 + c) k = σ (120 + c) k) : zCb σ' nc no ad ot rt sp br := by
  intro c hc
  have h1 := h c hc
  rw [hf c hc 0 (by decide), hf c hc 1 (by decide), hf c hc 2 (by decide), hf c hc 3 (by decide), hf c hc 4 (by decide)]
  exact h1
theorem zCb_fr {σ σ' : zIn} {nc no : Nat} {ad ot rt sp : Nat → Nat} {br : Nat → Bool} (h : zCb σ nc no ad ot rt sp br) (hf : zfr σ σ') : zCb σ' nc no ad ot rt sp br := zCb_eq h (fun c _ k _ => by rw [hf (120 + c) (by omega)])
set_option maxHeartbeats 4000000 in
set_option maxRecDepth 100000 in
theorem tX4_findCosts {l : Launch} {D : va_G} {cy : Nat → ClassId} {z0 : zRg} {g : zSh} {σ : zIn} {nc no : Nat} {ad ot rt sp : Nat → Nat} {br : Nat → Bool} (to : Nat) (hS : zS g) (hK : zC g nc) (hnc : σ 13 5 = nI nc) (hO : zO g no) (hno : σ 13 4 = nI no) (hcb : zCb σ nc no ad ot rt sp br) (hno8 : no ≤ 8) (hto : to < no) : z_Ct l D cy z0 MX4_findCosts [.ref (g.2.1 13), .int (nI to)] g σ (fun v g' σ' => v = none ∧ g' = g ∧ zfr σ σ' ∧ zco σ' (zrs ad ot rt br nc (zd0 1000000000 to) (no - 1))) := by
  refine z_ofM (by decide) (z_cr (z_ci z_c0)) (Nat.le_of_ble_eq_true rfl) ?_
  intro p e s m args below meth c X
  have loop_17 : ∀ (n : Nat) (r9 : Nat) (w1 w2 : Option Value) (τ : zIn) (hr1 : 1 ≤ r9) (hr : r9 ≤ max no 1) (hf : zfr σ τ) (hd : zco τ (zrs ad ot rt br nc (zd0 1000000000 to) (r9 - 1))) (hn : no - r9 < n), z_V p l e (zRm MX4_findCosts) s m args below meth c 5 D cy z0 0 0 (zQm MX4_findCosts below D cy z0 (fun v g' σ' => v = none ∧ g' = g ∧ zfr σ σ' ∧ zco σ' (zrs ad ot rt br nc (zd0 1000000000 to) (no - 1))) args s) 17 [some (.ref (g.2.1 13)), some (.int (nI to)), some (.int (nI r9)), w1, w2] [] g τ := by
    intro n
    induction n with
    | zero => intro r9 w1 w2 τ hr1 hr hf hd hn; exact absurd hn (Nat.not_lt_zero _)
    | succ n ih_17 =>
      intro r9 w1 w2 τ hr1 hr hf hd hn
      have eO : τ 13 4 = nI no := by rw [hf 13 (by decide)]; exact hno
      refine z_iload_n X dX4_findCosts_17 rfl ?_
      refine z_aload_n X dX4_findCosts_18 rfl ?_
      refine z_geti X fX4_30 (zso_13 hS) rfl dX4_findCosts_19 ?_
      try simp (disch := omega) only [z_up_app, z_put_app, reduceIte, Nat.reduceEqDiff, eO]
      refine z_icmp_ge (tgt := 89) X dX4_findCosts_22 (by decide) (fun c_22 => ?_) (fun c_22 => ?_)
      · skip
        try simp (disch := omega) only [zk0, nI_leI, nI_ltI, nI_eq, zbk_notn, zbk_not, zbk_n0, zbk_0, zb_0, zb_n0, zb_not, zb_notn, Bool.not_eq_false, Bool.not_eq_true, Bool.not_eq_true', Bool.not_eq_false', decide_eq_true_eq, decide_eq_false_iff_not, Classical.not_not] at c_22
        refine z_vret X (by decide) (by decide) rfl dX4_findCosts_89 ?_
        have er : r9 - 1 = no - 1 := by omega
        rw [er] at hd
        exact ⟨rfl, rfl, hf, hd⟩
      · skip
        try simp (disch := omega) only [zk0, nI_leI, nI_ltI, nI_eq, zbk_notn, zbk_not, zbk_n0, zbk_0, zb_0, zb_n0, zb_not, zb_notn, Bool.not_eq_false, Bool.not_eq_true, Bool.not_eq_true', Bool.not_eq_false', decide_eq_true_eq, decide_eq_false_iff_not, Classical.not_not] at c_22
        have loop_27 : ∀ (n : Nat) (c9 : Nat) (u1 : Option Value) (υ : zIn) (hc : c9 ≤ nc) (gf : zfr σ υ) (gd : zco υ (zrd ad ot rt br (zrs ad ot rt br nc (zd0 1000000000 to) (r9 - 1)) c9)) (hn : nc - c9 < n), z_V p l e (zRm MX4_findCosts) s m args below meth c 5 D cy z0 0 0 (zQm MX4_findCosts below D cy z0 (fun v g' σ' => v = none ∧ g' = g ∧ zfr σ σ' ∧ zco σ' (zrs ad ot rt br nc (zd0 1000000000 to) (no - 1))) args s) 27 [some (.ref (g.2.1 13)), some (.int (nI to)), some (.int (nI r9)), some (.int (nI c9)), u1] [] g υ := by
          intro n
          induction n with
          | zero => intro c9 u1 υ hc gf gd hn; exact absurd hn (Nat.not_lt_zero _)
          | succ n ih_27 =>
            intro c9 u1 υ hc gf gd hn
            have eC : υ 13 5 = nI nc := by rw [gf 13 (by decide)]; exact hnc
            have eB := zCb_fr hcb gf
            have hk12 := hK.1
            refine z_iload_n X dX4_findCosts_27 rfl ?_
            refine z_aload_n X dX4_findCosts_28 rfl ?_
            refine z_geti X fX4_34 (zso_13 hS) rfl dX4_findCosts_29 ?_
            try simp (disch := omega) only [z_up_app, z_put_app, reduceIte, Nat.reduceEqDiff, eC]
            refine z_icmp_ge (tgt := 83) X dX4_findCosts_32 (by decide) (fun c_32 => ?_) (fun c_32 => ?_)
            · skip
              try simp (disch := omega) only [zk0, nI_leI, nI_ltI, nI_eq, zbk_notn, zbk_not, zbk_n0, zbk_0, zb_0, zb_n0, zb_not, zb_notn, Bool.not_eq_false, Bool.not_eq_true, Bool.not_eq_true', Bool.not_eq_false', decide_eq_true_eq, decide_eq_false_iff_not, Classical.not_not] at c_32
              refine z_inc1 X dX4_findCosts_83 rfl (by decide) ?_
              refine z_goto (tgt := 17) X dX4_findCosts_86 (by decide) ?_
              refine ih_17 (r9 + 1) _ _ _ (by omega) (by omega) gf ?_ (by omega)
              have ec : c9 = nc := by omega
              subst ec
              rw [show r9 + 1 - 1 = (r9 - 1) + 1 by omega, zrs]
              exact gd
            · skip
              try simp (disch := omega) only [zk0, nI_leI, nI_ltI, nI_eq, zbk_notn, zbk_not, zbk_n0, zbk_0, zb_0, zb_n0, zb_not, zb_notn, Bool.not_eq_false, Bool.not_eq_true, Bool.not_eq_true', Bool.not_eq_false', decide_eq_true_eq, decide_eq_false_iff_not, Classical.not_not] at c_32
              refine z_aload_n X dX4_findCosts_35 rfl ?_
              refine z_iload_n X dX4_findCosts_36 rfl ?_
              refine z_runV X kX4_48 (tX4_cableAt c9 hS hK eC (by omega)) (zso_13 hS) rfl rfl (Nat.le_of_ble_eq_true rfl) ⟨by decide, by decide⟩ ⟨by decide, by decide⟩ dX4_findCosts_37 ?_
              rintro _ g1 s1 ⟨rfl, h8, h9⟩
              replace h8 := h8.symm
              subst h8
              replace h9 := h9.symm
              subst h9
              have hF := hK.2.1 c9 (by omega)
              obtain ⟨b1, b2, b3, b4, b5, b6, b7, b8, b9, b10, b11, b12⟩ := eB c9 (by omega)
              refine z_astore X dX4_findCosts_40 (by decide) ?_
              refine z_aload X dX4_findCosts_42 rfl ?_
              refine z_ifnull X dX4_findCosts_44 ?_
              refine z_aload X dX4_findCosts_47 rfl ?_
              refine z_geti X fX4_52 (hF.1) rfl dX4_findCosts_49 ?_
              try simp (disch := omega) only [z_up_app, z_put_app, reduceIte, Nat.reduceEqDiff, b12]
              refine z_if_ne (tgt := 77) X dX4_findCosts_52 (by decide) (fun c_52 => ?_) (fun c_52 => ?_)
              · skip
                try simp (disch := omega) only [zk0, nI_leI, nI_ltI, nI_eq, zbk_notn, zbk_not, zbk_n0, zbk_0, zb_0, zb_n0, zb_not, zb_notn, Bool.not_eq_false, Bool.not_eq_true, Bool.not_eq_true', Bool.not_eq_false', decide_eq_true_eq, decide_eq_false_iff_not, Classical.not_not] at c_52
                refine z_inc1 X dX4_findCosts_77 rfl (by decide) ?_
                refine z_goto (tgt := 27) X dX4_findCosts_80 (by decide) ?_
                first
                  | (refine ih_27 (c9 + 1) _ _ (by omega) (fun i h => by rw [p3 i h, p1 i h, gf i h]) ?_ (by omega)
                     have e1 : zoe ad ot c9 (ad c9) = ot c9 := by unfold zoe; rw [if_pos rfl]
                     have e2 : zoe ad ot c9 (ot c9) = ad c9 := by unfold zoe; rw [if_neg (fun q => b5 q.symm)]
                     rw [e1, e2] at p4
                     rw [zrd, zr1, if_neg (by rw [c_52]; decide)]
                     exact p4)
                  | (refine ih_27 (c9 + 1) _ _ (by omega) gf ?_ (by omega)
                     rw [zrd, zr1, if_pos c_52]
                     exact gd)
              · skip
                try simp (disch := omega) only [zk0, nI_leI, nI_ltI, nI_eq, zbk_notn, zbk_not, zbk_n0, zbk_0, zb_0, zb_n0, zb_not, zb_notn, Bool.not_eq_false, Bool.not_eq_true, Bool.not_eq_true', Bool.not_eq_false', decide_eq_true_eq, decide_eq_false_iff_not, Classical.not_not] at c_52
                refine z_aload_n X dX4_findCosts_55 rfl ?_
                refine z_aload X dX4_findCosts_56 rfl ?_
                refine z_geti X fX4_87 (hF.1) rfl dX4_findCosts_58 ?_
                try simp (disch := omega) only [z_up_app, z_put_app, reduceIte, Nat.reduceEqDiff, b1]
                refine z_aload X dX4_findCosts_61 rfl ?_
                refine z_runV X kX4_90 (tX4_lowerCost (d := zrd ad ot rt br (zrs ad ot rt br nc (zd0 1000000000 to) (r9 - 1)) c9) c9 (ad c9) hS hK eC eB hno8 gd (by omega) (Or.inl rfl)) (zso_13 hS) rfl rfl (Nat.le_of_ble_eq_true rfl) ⟨by decide, by decide⟩ ⟨by decide, by decide⟩ dX4_findCosts_63 ?_
                rintro _ g1 s1 ⟨rfl, h8, p1, p2⟩
                obtain rfl := h8.symm
                have b3s : s1 (120 + c9) 1 = nI (ot c9) := by rw [p1 (120 + c9) (by omega)]; exact b3
                refine z_aload_n X dX4_findCosts_66 rfl ?_
                refine z_aload X dX4_findCosts_67 rfl ?_
                refine z_geti X fX4_94 (hF.1) rfl dX4_findCosts_69 ?_
                try simp (disch := omega) only [z_up_app, z_put_app, reduceIte, Nat.reduceEqDiff, b3s]
                refine z_aload X dX4_findCosts_72 rfl ?_
                refine z_runV X kX4_90 (tX4_lowerCost (d := zlo (zrd ad ot rt br (zrs ad ot rt br nc (zd0 1000000000 to) (r9 - 1)) c9) (ad c9) (zoe ad ot c9 (ad c9)) (rt c9 * 16 + 1)) c9 (ot c9) hS hK (by rw [p1 13 (by decide)]; exact eC) (zCb_fr eB p1) hno8 p2 (by omega) (Or.inr rfl)) (zso_13 hS) rfl rfl (Nat.le_of_ble_eq_true rfl) ⟨by decide, by decide⟩ ⟨by decide, by decide⟩ dX4_findCosts_74 ?_
                rintro _ g1 s2 ⟨rfl, h8, p3, p4⟩
                obtain rfl := h8.symm
                refine z_inc1 X dX4_findCosts_77 rfl (by decide) ?_
                refine z_goto (tgt := 27) X dX4_findCosts_80 (by decide) ?_
                first
                  | (refine ih_27 (c9 + 1) _ _ (by omega) (fun i h => by rw [p3 i h, p1 i h, gf i h]) ?_ (by omega)
                     have e1 : zoe ad ot c9 (ad c9) = ot c9 := by unfold zoe; rw [if_pos rfl]
                     have e2 : zoe ad ot c9 (ot c9) = ad c9 := by unfold zoe; rw [if_neg (fun q => b5 q.symm)]
                     rw [e1, e2] at p4
                     rw [zrd, zr1, if_neg (by rw [c_52]; decide)]
                     exact p4)
                  | (refine ih_27 (c9 + 1) _ _ (by omega) gf ?_ (by omega)
                     rw [zrd, zr1, if_pos c_52]
                     exact gd)
        refine z_iconst (v := nI 0) X (by decide) dX4_findCosts_25 ?_
        refine z_istore_n X dX4_findCosts_26 (by decide) ?_
        exact loop_27 (nc - 0 + 1) 0 _ _ (by omega) hf hd (by omega)
  refine z_aload_n X dX4_findCosts_0 rfl ?_
  refine z_getr2 X fX4_23 (zso_13 hS) (zsr_13_2 hS) rfl dX4_findCosts_1 ?_
  refine z_ldc X qX4_76 dX4_findCosts_4 ?_
  refine z_runS X kX4_77 (tJ7_fill_53178 1000000000 (zsa_16 hS) (by decide)) rfl rfl (Nat.le_of_ble_eq_true rfl) ⟨by decide, by decide⟩ ⟨by decide, by decide⟩ dX4_findCosts_6 ?_
  rintro _ g1 s1 ⟨rfl, h8, h9⟩
  replace h8 := h8.symm
  subst h8
  replace h9 := h9.symm
  subst h9
  refine z_aload_n X dX4_findCosts_9 rfl ?_
  refine z_iload_n X dX4_findCosts_10 rfl ?_
  refine z_iconst (v := nI 0) X (by decide) dX4_findCosts_11 ?_
  refine z_runV X kX4_83 (tX4_setCost to (nI 0) hS (by omega)) (zso_13 hS) rfl rfl (Nat.le_of_ble_eq_true rfl) ⟨by decide, by decide⟩ ⟨by decide, by decide⟩ dX4_findCosts_12 ?_
  rintro _ g1 s1 ⟨rfl, h8, h9⟩
  replace h8 := h8.symm
  subst h8
  replace h9 := h9.symm
  subst h9
  refine z_iconst (v := nI 1) X (by decide) dX4_findCosts_15 ?_
  refine z_istore_n X dX4_findCosts_16 (by decide) ?_
  exact loop_17 (no - 1 + 1) 1 _ _ _ (by omega) (by omega) (fun i h => by rw [z_up_ne h]; funext k; simp only [z_fill, z_put_app, if_neg h]) (fun v hv => by
    rw [Nat.sub_self]; unfold zrs zd0
    by_cases e : v = to
    · subst e; exact ⟨by simp only [z_up_app, reduceIte], by simp⟩
    · simp only [z_up_app, z_fill, z_put_app, reduceIte, if_neg e, if_pos hv]; exact ⟨rfl, Nat.le_refl _⟩) (by omega)
