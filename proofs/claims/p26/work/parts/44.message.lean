/-! contracts: Arrays.copyOf, the constructor of a message -/
/-- row i's first n copied to row j -/
def zcpy (σ : zIn) (i j n : Nat) : zIn := fun i' k' => if i' = j then va_cpy (σ i) (σ j) 0 0 n k' else σ i' k'
theorem zcpy_at {σ : zIn} {i j n k : Nat} (h : k < n) : zcpy σ i j n j k = σ i k := by
  unfold zcpy va_cpy
  rw [if_pos rfl, if_pos ⟨Nat.zero_le _, by omega⟩]; simp
theorem zcpy_ne {σ : zIn} {i j n q : Nat} (h : q ≠ j) : zcpy σ i j n q = σ q := by
  funext k; unfold zcpy; rw [if_neg h]
/-- row i's first n are row j's; nothing else has changed -/
def zCp (σ : zIn) (i j n : Nat) (τ : zIn) : Prop := (∀ q, q ≠ j → τ q = σ q) ∧ ∀ k, k < n → τ j k = σ i k
def zcln (σ : zIn) (i j : Nat) : zIn := fun i' k' => if i' = j then σ i k' else σ i' k'
theorem zcln_ne {σ : zIn} {i j q : Nat} (h : q ≠ j) : zcln σ i j q = σ q := by
  funext k; unfold zcln; rw [if_neg h]
theorem z_w_addF {cy : Nat → ClassId} {g : zSh} {σ σ' : zIn} {i a kd n : Nat} (hw : z_wf g) (hi : i ∉ g.1) (hi0 : i ≠ 0) (hs : ∀ j, j ≠ i → σ' j = σ j) : z_w cy g σ ++ [(a, z_cel cy (z_add g i a kd n) i (σ' i))] = z_w cy (z_add g i a kd n) σ' := by
  have h1 : ∀ j ∈ g.1, (g.2.1 j, z_cel cy g j (σ j)) = ((z_add g i a kd n).2.1 j, z_cel cy (z_add g i a kd n) j (σ' j)) := by
    intro j hj
    have hne : j ≠ i := fun h => hi (h ▸ hj)
    have e2 : ∀ k, z_ro (z_add g i a kd n) (g.2.2.2.2 j k) = z_ro g (g.2.2.2.2 j k) := by
      intro k
      rcases hw j hj k with h | h
      · simp [z_ro, h]
      · have : g.2.2.2.2 j k ≠ i := fun e => hi (e ▸ h)
        simp [z_ro, z_add, va_up, this]
    rw [hs j hne]
    refine Prod.ext ?_ ?_
    · simp [z_add, va_up, hne]
    · have e3 : (z_add g i a kd n).2.2.1 j = g.2.2.1 j := by simp [z_add, va_up, hne]
      have e4 : (z_add g i a kd n).2.2.2.1 j = g.2.2.2.1 j := by simp [z_add, va_up, hne]
      have e5 : (z_add g i a kd n).2.2.2.2 j = g.2.2.2.2 j := by funext k; simp [z_add, hne]
      simp only [z_cel, z_rv, e3, e4, e5, e2]
  show g.1.map _ ++ [(a, _)] = (g.1 ++ [i]).map _
  rw [List.map_append, List.map_congr_left h1]
  congr 1
  simp only [List.map_cons, List.map_nil]
  simp [z_add, va_up]
section
variable {p : Program} {l : Launch} {e : Env} {R : Room} {s : State} {m : MethodId} {args : Array Value} {below : List Frame} {meth : Method} {c : Code} {cells slots : Nat} {Q : State → Prop} {own nm : String} {cc : ByteArray} {nL : Nat} {ret : Option FieldType} {D : va_G} {cy : Nat → ClassId} {z0 : zRg} {pc : Nat} {L : List (Option Value)} {st : List Value} {g : zSh} {σ : zIn}
theorem z_copyi (X : z_cx p s m args meth c own cc nL ret nm D cy z0) {idx i j ni nj n : Nat} (hl : Cond.methodLink own idx arraycopyName ∈ lw_good) (hn : Cond.native arraycopyName ∈ lw_good) (hst : Cond.static arraycopyName ∈ lw_good) (hini : Cond.initialized "java/lang/System" ∈ lw_good) (hi : z_ar g i 0 ni) (hj : z_ar g j 0 nj) (h1 : n ≤ ni) (h2 : n ≤ nj) (h3 : n < 2 ^ 31) (hfr : 1 ≤ R.frames) (hlo : (st.map fun v => v.category).sum + (nativeFrameWords "java/lang/System" "arraycopy" 5 + 11) ≤ R.locals) (d : decode cc pc = .ok (.invokestatic idx, 3))
    (kk : z_V p l e R s m args below meth c nL D cy z0 cells slots Q (pc + 3) L st g (zcpy σ i j n)) : z_V p l e R s m args below meth c nL D cy z0 cells slots Q pc L (.int (nI n) :: .int (nI 0) :: .ref (g.2.1 j) :: .int (nI 0) :: .ref (g.2.1 i) :: st) g σ := by
  intro H locs ls hP hD hS hL
  obtain ⟨hx, hb', hml, hown, hts, hN, hK, hz, hr, hnm, hlk⟩ := X
  obtain ⟨q0, p1, p2⟩ := z_get_k (cy := cy) (σ := σ) hi.1
  obtain ⟨q1, r1, r2⟩ := z_get_k (cy := cy) (σ := σ) hj.1
  rw [z_cel_I hi.2.1 hi.2.2] at p2
  rw [z_cel_I hj.2.1 hj.2.2] at r2
  have ec : (nI n).toNatClampNeg = n := nI_clamp h3
  have e0 : (nI 0).toNatClampNeg = 0 := rfl
  refine va_copyi hx hb' (hml.trans hL.1.1.symm) hown (hts _ hl) (hts _ hn) (hts _ hst) (hts _ hini) hK hP hD hS q0 q1 0 0 p2 r2 rfl rfl rfl (by decide) (by decide) (nI_pos h3) (by rw [ec, e0]; omega) (by rw [ec, e0]; omega) (fun _ _ => rfl) hfr hlo d (fun H1 locs1 h5 h6 h7 => ?_)
  have e9 : (z_w cy g σ).set q1 (g.2.1 j, .inl (cy 0, nj, .inl (va_cpy (σ i) (σ j) (nI 0).toNatClampNeg (nI 0).toNatClampNeg (nI n).toNatClampNeg))) = z_w cy g (zcpy σ i j n) := by
    rw [ec, e0]
    refine z_set hD r1 rfl rfl (fun q hq => by rw [zcpy_ne hq]) ?_
    rw [z_cel_I hj.2.1 hj.2.2]
    congr 4
    funext k
    unfold zcpy; rw [if_pos rfl]
  rw [e9] at h5 h6
  exact kk H1 locs1 ls h5 h6 h7 hL
theorem z_clone (X : z_cx p s m args meth c own cc nL ret nm D cy z0) {idx i j n : Nat} (hlink : Cond.methodLink own idx ⟨"[I", "clone", "()Ljava/lang/Object;"⟩ ∈ lw_good) (hsame : Cond.sameMethod "[I" "java/lang/Object" "clone" "()Ljava/lang/Object;" ∈ lw_good) (hnat : Cond.native ⟨"java/lang/Object", "clone", "()Ljava/lang/Object;"⟩ ∈ lw_good) (hinst : Cond.instanceMethod ⟨"java/lang/Object", "clone", "()Ljava/lang/Object;"⟩ ∈ lw_good)
    (hsel : Cond.selects "[I" ⟨"[I", "clone", "()Ljava/lang/Object;"⟩ ⟨"java/lang/Object", "clone", "()Ljava/lang/Object;"⟩ ∈ lw_good) (hcl : Cond.castable "[I" "java/lang/Cloneable" ∈ lw_nest) (hi : z_ar g i 0 n) (hw : z_wf g) (hj : j ∉ g.1) (hj0 : j ≠ 0) (hfr : 1 ≤ R.frames) (hlo : (st.map fun v => v.category).sum + 14 ≤ R.locals) (hce : cells + 1 ≤ R.cells) (hsl : slots + n ≤ R.slots) (d : decode cc pc = .ok (.invokevirtual idx, 3))
    (kk : ∀ a : Nat, z_V p l e R s m args below meth c nL D cy z0 (cells + 1) (slots + n) Q (pc + 3) L (.ref a :: st) (z_add g j a 10 n) (zcln σ i j)) : z_V p l e R s m args below meth c nL D cy z0 cells slots Q pc L (.ref (g.2.1 i) :: st) g σ := by
  intro H locs ls hP hD hS hL
  obtain ⟨hx, hb', hml, hown, hts, hN, hK, hz, hr, hnm, hlk⟩ := X
  obtain ⟨q0, p1, p2⟩ := z_get_k (cy := cy) (σ := σ) hi.1
  rw [z_cel_I hi.2.1 hi.2.2] at p2
  refine va_clone hx hb' (hml.trans hL.1.1.symm) hown (hts _ hlink) (hts _ hsame) (hts _ hnat) (hts _ hinst) (hts _ hsel) (hN _ hcl) hK hP hD hS (fun q hq => hz q hq) q0 0 p2 rfl (va_nm_int (hK.2 0 _ rfl).2) (fun i v hv => va_fit (fun i _ => rfl) i v hv) hfr hlo hce hsl d (fun q H1 hK1 h1 h2 h3 => ?_)
  have e9 : z_w cy g σ ++ [(q, .inl (cy 0, n, .inl (σ i)))] = z_w cy (z_add g j q 10 n) (zcln σ i j) := by
    rw [← z_w_addF (a := q) (kd := 10) (n := n) hw hj hj0 (fun j' h => zcln_ne h)]
    rw [z_cel_I (show (z_add g j q 10 n).2.2.1 j = 10 + 0 by simp [z_add, va_up]) (show (z_add g j q 10 n).2.2.2.1 j = n by simp [z_add, va_up])]
    rw [show zcln σ i j j = σ i from by funext k; unfold zcln; rw [if_pos rfl]]
  rw [e9] at h1 h2
  exact kk q H1 locs ls h1 h2 h3 hL
theorem z_castA (X : z_cx p s m args meth c own cc nL ret nm D cy z0) {idx i n : Nat} (hl : Cond.classLink own idx "[I" ∈ lw_good) (hi : z_ar g i 0 n) (d : decode cc pc = .ok (.checkcast idx, 3)) (kk : z_V p l e R s m args below meth c nL D cy z0 cells slots Q (pc + 3) L (.ref (g.2.1 i) :: st) g σ) : z_V p l e R s m args below meth c nL D cy z0 cells slots Q pc L (.ref (g.2.1 i) :: st) g σ := by
  intro H locs ls hP hD hS hL
  obtain ⟨hx, hb', hml, hown, hts, hN, hK, hz, hr, hnm, hlk⟩ := X
  obtain ⟨q0, p1, p2⟩ := z_get_k (cy := cy) (σ := σ) hi.1
  rw [z_cel_I hi.2.1 hi.2.2] at p2
  exact va_castA hx hb' hown (hts _ hl) hP q0 p2 (va_nm_int (hK.2 0 _ rfl).2) d (kk H locs ls hP hD hS hL)
end
/-- copyOf, with room for 24 elements, and for 8 -/
abbrev zMcp24 : zM := (yJ7_copyOf_59c91, cJ7_copyOf_59c91, 3, (some (.array .int)), 1, 1, 24, 30)
abbrev zMcp8 : zM := (yJ7_copyOf_59c91, cJ7_copyOf_59c91, 3, (some (.array .int)), 1, 1, 8, 30)
theorem kJ7_304 : z_cS RJ7 304 MJ9_min_7cf53 2 := ⟨⟨Or.inl (z_gd 800 (by decide +kernel) (by decide +kernel)), z_gd 449 (by decide +kernel) (by decide +kernel), z_gd 43 (by decide +kernel) (by decide +kernel), ⟨by decide, by decide⟩, by decide +kernel⟩, z_gd 448 (by decide +kernel) (by decide +kernel)⟩
theorem nJ7_150 : Cond.methodLink RJ7 150 arraycopyName ∈ lw_good := z_gd 801 (by decide +kernel) (by decide +kernel)
theorem nJ7_nat : Cond.native arraycopyName ∈ lw_good := z_gd 803 (by decide +kernel) (by decide +kernel)
theorem nJ7_sta : Cond.static arraycopyName ∈ lw_good := z_gd 802 (by decide +kernel) (by decide +kernel)
theorem nJ7_ini : Cond.initialized "java/lang/System" ∈ lw_good := z_gd 46 (by decide +kernel) (by decide +kernel)
theorem nJ7_316 : Cond.methodLink RJ7 316 ⟨"[I", "clone", "()Ljava/lang/Object;"⟩ ∈ lw_good := z_gd 793 (by decide +kernel) (by decide +kernel)
theorem nJ7_cs : Cond.sameMethod "[I" "java/lang/Object" "clone" "()Ljava/lang/Object;" ∈ lw_good := z_gd 794 (by decide +kernel) (by decide +kernel)
theorem nJ7_cn : Cond.native ⟨"java/lang/Object", "clone", "()Ljava/lang/Object;"⟩ ∈ lw_good := z_gd 795 (by decide +kernel) (by decide +kernel)
theorem nJ7_ci : Cond.instanceMethod ⟨"java/lang/Object", "clone", "()Ljava/lang/Object;"⟩ ∈ lw_good := z_gd 796 (by decide +kernel) (by decide +kernel)
theorem nJ7_cl : Cond.selects "[I" ⟨"[I", "clone", "()Ljava/lang/Object;"⟩ ⟨"java/lang/Object", "clone", "()Ljava/lang/Object;"⟩ ∈ lw_good := z_gd 797 (by decide +kernel) (by decide +kernel)
theorem nJ7_cc : Cond.castable "[I" "java/lang/Cloneable" ∈ lw_nest := z_ns 770 (by decide +kernel) (by decide +kernel)
theorem nJ7_317 : Cond.classLink RJ7 317 "[I" ∈ lw_good := z_gd 799 (by decide +kernel) (by decide +kernel)
set_option maxHeartbeats 4000000 in
theorem tJ7_copyOf24 {l : Launch} {D : va_G} {cy : Nat → ClassId} {z0 : zRg} {g : zSh} {σ : zIn} {i j n9 : Nat} (n : Nat) (ha : z_ar g i 0 n9) (hn : n ≤ n9) (h9 : n9 ≤ 24) (hsl : n ≤ 24) (hw : z_wf g) (hj : j ∉ g.1) (hj0 : j ≠ 0) : z_Ct l D cy z0 zMcp24 [.ref (g.2.1 i), .int (nI n)] g σ (fun v g' σ' => ∃ a, v = some (.ref a) ∧ g' = z_add g j a 10 n ∧ zCp σ i j n σ') := by
  refine z_ofF (by decide +kernel) (z_cr (z_ci z_c0)) (Nat.le_of_ble_eq_true rfl) ?_
  intro p e s m args below meth c X
  refine z_iload_n X dJ7_copyOf_59c91_0 rfl ?_
  refine z_aload_n X dJ7_copyOf_59c91_1 rfl ?_
  refine z_alen X (t := 0) (by decide) ha dJ7_copyOf_59c91_2 ?_
  refine z_icmp_ne (tgt := 14) X dJ7_copyOf_59c91_3 (by decide) (fun c3 => ?_) (fun c3 => ?_)
  · refine z_iload_n X dJ7_copyOf_59c91_14 rfl ?_
    refine z_newaI X (i := j) (N := n) ac_int hw hj hj0 (nI_pos (by omega)) (nI_clamp (by omega)) (by omega) (Nat.le_of_ble_eq_true rfl) (by show 0 + n ≤ 24; omega) dJ7_copyOf_59c91_15 (fun a => ?_)
    obtain ⟨gN, hgN⟩ : ∃ g1, g1 = z_add g j a 10 n := ⟨_, rfl⟩
    rw [show z_add g j a (10 + 0) n = gN from hgN.symm]
    have ea : a = gN.2.1 j := by rw [hgN]; exact z_add_at.symm
    have hij : i ≠ j := fun q => hj (q ▸ ha.1)
    have eo : g.2.1 i = gN.2.1 i := by rw [hgN]; exact (z_add_ne hij).symm
    have hai : z_ar gN i 0 n9 := by rw [hgN]; exact z_ar_add ha hj
    have haj : z_ar gN j 0 n := by rw [hgN]; exact z_ar_at (t := 0)
    rw [ea, eo]
    refine z_astore_n X dJ7_copyOf_59c91_17 (by decide) ?_
    refine z_aload_n X dJ7_copyOf_59c91_18 rfl ?_
    refine z_iconst (v := nI 0) X (by decide) dJ7_copyOf_59c91_19 ?_
    refine z_aload_n X dJ7_copyOf_59c91_20 rfl ?_
    refine z_iconst (v := nI 0) X (by decide) dJ7_copyOf_59c91_21 ?_
    refine z_aload_n X dJ7_copyOf_59c91_22 rfl ?_
    refine z_alen X (t := 0) (by decide) hai dJ7_copyOf_59c91_23 ?_
    refine z_iload_n X dJ7_copyOf_59c91_24 rfl ?_
    refine z_runS X kJ7_304 (tJ9_min_7cf53 _ _) rfl rfl (Nat.le_of_ble_eq_true rfl) ⟨by decide, by decide⟩ ⟨by decide, by show 0 + n + 0 ≤ 24; omega⟩ dJ7_copyOf_59c91_25 ?_
    rintro _ g1 s1 ⟨rfl, h8, h9'⟩
    replace h8 := h8.symm
    subst h8
    subst h9'
    have em : (if nI n9 ≤ nI n then nI n9 else nI n) = nI n := by rw [zmin_n (by omega) (by omega), Nat.min_eq_right hn]
    rw [em]
    refine z_copyi X nJ7_150 nJ7_nat nJ7_sta nJ7_ini hai haj (by omega) (Nat.le_refl _) (by omega) (by decide) (by decide) dJ7_copyOf_59c91_28 ?_
    refine z_aload_n X dJ7_copyOf_59c91_31 rfl ?_
    refine z_aret X (by decide) (by show 0 + n + 0 ≤ 24; omega) rfl (Or.inr ⟨_, rfl⟩) (Or.inr ⟨_, rfl⟩) dJ7_copyOf_59c91_32 ?_
    exact ⟨_, by rw [← ea], hgN, fun q hq => by rw [zcpy_ne hq]; funext k; rw [z_zero_app, if_neg hq], fun k hk => by rw [zcpy_at hk, z_zero_app, if_neg hij]⟩
  · have en : n = n9 := by
      rw [nI_eq (by omega) (by omega)] at c3
      omega
    subst en
    refine z_aload_n X dJ7_copyOf_59c91_6 rfl ?_
    refine z_clone X (j := j) nJ7_316 nJ7_cs nJ7_cn nJ7_ci nJ7_cl nJ7_cc ha hw hj hj0 (by decide) (by decide) (Nat.le_of_ble_eq_true rfl) (by show 0 + n ≤ 24; omega) dJ7_copyOf_59c91_7 (fun a => ?_)
    obtain ⟨gN, hgN⟩ : ∃ g1, g1 = z_add g j a 10 n := ⟨_, rfl⟩
    rw [show z_add g j a 10 n = gN from hgN.symm]
    have ea : a = gN.2.1 j := by rw [hgN]; exact z_add_at.symm
    have haj : z_ar gN j 0 n := by rw [hgN]; exact z_ar_at (t := 0)
    rw [ea]
    refine z_castA X nJ7_317 haj dJ7_copyOf_59c91_10 ?_
    refine z_aret X (by decide) (by show 0 + n ≤ 24; omega) rfl (Or.inr ⟨_, rfl⟩) (Or.inr ⟨_, rfl⟩) dJ7_copyOf_59c91_13 ?_
    exact ⟨_, by rw [← ea], hgN, fun q hq => zcln_ne hq, fun k hk => by unfold zcln; rw [if_pos rfl]⟩
set_option maxHeartbeats 4000000 in
theorem tJ7_copyOf8 {l : Launch} {D : va_G} {cy : Nat → ClassId} {z0 : zRg} {g : zSh} {σ : zIn} {i j n9 : Nat} (n : Nat) (ha : z_ar g i 0 n9) (hn : n ≤ n9) (h9 : n9 ≤ 24) (hsl : n ≤ 8) (hw : z_wf g) (hj : j ∉ g.1) (hj0 : j ≠ 0) : z_Ct l D cy z0 zMcp8 [.ref (g.2.1 i), .int (nI n)] g σ (fun v g' σ' => ∃ a, v = some (.ref a) ∧ g' = z_add g j a 10 n ∧ zCp σ i j n σ') := by
  refine z_ofF (by decide +kernel) (z_cr (z_ci z_c0)) (Nat.le_of_ble_eq_true rfl) ?_
  intro p e s m args below meth c X
  refine z_iload_n X dJ7_copyOf_59c91_0 rfl ?_
  refine z_aload_n X dJ7_copyOf_59c91_1 rfl ?_
  refine z_alen X (t := 0) (by decide) ha dJ7_copyOf_59c91_2 ?_
  refine z_icmp_ne (tgt := 14) X dJ7_copyOf_59c91_3 (by decide) (fun c3 => ?_) (fun c3 => ?_)
  · refine z_iload_n X dJ7_copyOf_59c91_14 rfl ?_
    refine z_newaI X (i := j) (N := n) ac_int hw hj hj0 (nI_pos (by omega)) (nI_clamp (by omega)) (by omega) (Nat.le_of_ble_eq_true rfl) (by show 0 + n ≤ 8; omega) dJ7_copyOf_59c91_15 (fun a => ?_)
    obtain ⟨gN, hgN⟩ : ∃ g1, g1 = z_add g j a 10 n := ⟨_, rfl⟩
    rw [show z_add g j a (10 + 0) n = gN from hgN.symm]
    have ea : a = gN.2.1 j := by rw [hgN]; exact z_add_at.symm
    have hij : i ≠ j := fun q => hj (q ▸ ha.1)
    have eo : g.2.1 i = gN.2.1 i := by rw [hgN]; exact (z_add_ne hij).symm
    have hai : z_ar gN i 0 n9 := by rw [hgN]; exact z_ar_add ha hj
    have haj : z_ar gN j 0 n := by rw [hgN]; exact z_ar_at (t := 0)
    rw [ea, eo]
    refine z_astore_n X dJ7_copyOf_59c91_17 (by decide) ?_
    refine z_aload_n X dJ7_copyOf_59c91_18 rfl ?_
    refine z_iconst (v := nI 0) X (by decide) dJ7_copyOf_59c91_19 ?_
    refine z_aload_n X dJ7_copyOf_59c91_20 rfl ?_
    refine z_iconst (v := nI 0) X (by decide) dJ7_copyOf_59c91_21 ?_
    refine z_aload_n X dJ7_copyOf_59c91_22 rfl ?_
    refine z_alen X (t := 0) (by decide) hai dJ7_copyOf_59c91_23 ?_
    refine z_iload_n X dJ7_copyOf_59c91_24 rfl ?_
    refine z_runS X kJ7_304 (tJ9_min_7cf53 _ _) rfl rfl (Nat.le_of_ble_eq_true rfl) ⟨by decide, by decide⟩ ⟨by decide, by show 0 + n + 0 ≤ 8; omega⟩ dJ7_copyOf_59c91_25 ?_
    rintro _ g1 s1 ⟨rfl, h8, h9'⟩
    replace h8 := h8.symm
    subst h8
    subst h9'
    have em : (if nI n9 ≤ nI n then nI n9 else nI n) = nI n := by rw [zmin_n (by omega) (by omega), Nat.min_eq_right hn]
    rw [em]
    refine z_copyi X nJ7_150 nJ7_nat nJ7_sta nJ7_ini hai haj (by omega) (Nat.le_refl _) (by omega) (by decide) (by decide) dJ7_copyOf_59c91_28 ?_
    refine z_aload_n X dJ7_copyOf_59c91_31 rfl ?_
    refine z_aret X (by decide) (by show 0 + n + 0 ≤ 8; omega) rfl (Or.inr ⟨_, rfl⟩) (Or.inr ⟨_, rfl⟩) dJ7_copyOf_59c91_32 ?_
    exact ⟨_, by rw [← ea], hgN, fun q hq => by rw [zcpy_ne hq]; funext k; rw [z_zero_app, if_neg hq], fun k hk => by rw [zcpy_at hk, z_zero_app, if_neg hij]⟩
  · have en : n = n9 := by
      rw [nI_eq (by omega) (by omega)] at c3
      omega
    subst en
    refine z_aload_n X dJ7_copyOf_59c91_6 rfl ?_
    refine z_clone X (j := j) nJ7_316 nJ7_cs nJ7_cn nJ7_ci nJ7_cl nJ7_cc ha hw hj hj0 (by decide) (by decide) (Nat.le_of_ble_eq_true rfl) (by show 0 + n ≤ 8; omega) dJ7_copyOf_59c91_7 (fun a => ?_)
    obtain ⟨gN, hgN⟩ : ∃ g1, g1 = z_add g j a 10 n := ⟨_, rfl⟩
    rw [show z_add g j a 10 n = gN from hgN.symm]
    have ea : a = gN.2.1 j := by rw [hgN]; exact z_add_at.symm
    have haj : z_ar gN j 0 n := by rw [hgN]; exact z_ar_at (t := 0)
    rw [ea]
    refine z_castA X nJ7_317 haj dJ7_copyOf_59c91_10 ?_
    refine z_aret X (by decide) (by show 0 + n ≤ 8; omega) rfl (Or.inr ⟨_, rfl⟩) (Or.inr ⟨_, rfl⟩) dJ7_copyOf_59c91_13 ?_
    exact ⟨_, by rw [← ea], hgN, fun q hq => zcln_ne hq, fun k hk => by unfold zcln; rw [if_pos rfl]⟩
theorem kX4_117N : z_cS RX4 117 zMcp8 2 := kX4_117
set_option maxHeartbeats 4000000 in
set_option maxRecDepth 100000 in
theorem tX6_wordRow {l : Launch} {D : va_G} {cy : Nat → ClassId} {z0 : zRg} {g : zSh} {σ : zIn} {W j : Nat} (hS : zS g) (hW : σ 7 4 = nI W) (hW24 : W ≤ 24) (hw : z_wf g) (hj : j ∉ g.1) (hj0 : j ≠ 0) : z_Ct l D cy z0 MX6_wordRow [.ref (g.2.1 7)] g σ (fun v g' σ' => ∃ a, v = some (.ref a) ∧ g' = z_add g j a 10 W ∧ zCp σ 10 j W σ') := by
  refine z_ofM (by decide) (z_cr z_c0) (Nat.le_of_ble_eq_true rfl) ?_
  intro p e s m args below meth c X
  refine z_aload_n X dX6_wordRow_0 rfl ?_
  refine z_getr2 X fX6_22 (zso_7 hS) (zsr_7_3 hS) rfl dX6_wordRow_1 ?_
  refine z_iconst (v := nI 0) X (by decide) dX6_wordRow_4 ?_
  refine z_aload_n X dX6_wordRow_5 rfl ?_
  refine z_geti X fX6_25 (zso_7 hS) rfl dX6_wordRow_6 ?_
  try simp (disch := omega) only [z_up_app, z_put_app, reduceIte, Nat.reduceEqDiff, hW]
  refine z_aload_n X dX6_wordRow_9 rfl ?_
  refine z_getr2 X fX6_22 (zso_7 hS) (zsr_7_3 hS) rfl dX6_wordRow_10 ?_
  refine z_alen X (t := 0) (by decide) (zsa_10 hS) dX6_wordRow_13 ?_
  refine z_runS X kX6_35 (tJ9_min_7cf53 (nI W) (nI 24)) rfl rfl (Nat.le_of_ble_eq_true rfl) ⟨by decide, by decide⟩ ⟨by decide, by decide⟩ dX6_wordRow_14 ?_
  rintro _ g1 s1 ⟨rfl, h8, h9⟩
  replace h8 := h8.symm
  subst h8
  replace h9 := h9.symm
  subst h9
  rw [zmin_n (by omega) (by omega), Nat.min_eq_left hW24]
  refine z_runS X kX6_41 (tJ9_max_7cf53 (nI 0) (nI W)) rfl rfl (Nat.le_of_ble_eq_true rfl) ⟨by decide, by decide⟩ ⟨by decide, by decide⟩ dX6_wordRow_17 ?_
  rintro _ g1 s1 ⟨rfl, h8, h9⟩
  replace h8 := h8.symm
  subst h8
  replace h9 := h9.symm
  subst h9
  rw [zmax_n (by omega) (by omega), Nat.max_eq_right (Nat.zero_le W)]
  refine z_runS X kX6_44 (tJ7_copyOf24 (j := j) W (zsa_10 hS) hW24 (by omega) hW24 hw hj hj0) rfl rfl (Nat.le_of_ble_eq_true rfl) ⟨by decide, by decide⟩ ⟨by decide, by decide⟩ dX6_wordRow_20 ?_
  rintro _ gN s1 ⟨a20, rfl, hgN, hC⟩
  refine z_aret X (by decide) (by decide) rfl (Or.inr ⟨_, rfl⟩) (Or.inr ⟨_, rfl⟩) dX6_wordRow_23 ?_
  exact ⟨_, rfl, hgN, hC⟩

set_option maxHeartbeats 4000000 in
set_option maxRecDepth 100000 in
theorem tX4_routeRow {l : Launch} {D : va_G} {cy : Nat → ClassId} {z0 : zRg} {g : zSh} {σ : zIn} {W j : Nat} (hS : zS g) (hW : σ 13 6 = nI W) (hW8 : W ≤ 8) (hw : z_wf g) (hj : j ∉ g.1) (hj0 : j ≠ 0) : z_Ct l D cy z0 MX4_routeRow [.ref (g.2.1 13)] g σ (fun v g' σ' => ∃ a, v = some (.ref a) ∧ g' = z_add g j a 10 W ∧ zCp σ 17 j W σ') := by
  refine z_ofM (by decide) (z_cr z_c0) (Nat.le_of_ble_eq_true rfl) ?_
  intro p e s m args below meth c X
  refine z_aload_n X dX4_routeRow_0 rfl ?_
  refine z_getr2 X fX4_27 (zso_13 hS) (zsr_13_3 hS) rfl dX4_routeRow_1 ?_
  refine z_iconst (v := nI 0) X (by decide) dX4_routeRow_4 ?_
  refine z_aload_n X dX4_routeRow_5 rfl ?_
  refine z_geti X fX4_37 (zso_13 hS) rfl dX4_routeRow_6 ?_
  try simp (disch := omega) only [z_up_app, z_put_app, reduceIte, Nat.reduceEqDiff, hW]
  refine z_aload_n X dX4_routeRow_9 rfl ?_
  refine z_getr2 X fX4_27 (zso_13 hS) (zsr_13_3 hS) rfl dX4_routeRow_10 ?_
  refine z_alen X (t := 0) (by decide) (zsa_17 hS) dX4_routeRow_13 ?_
  refine z_runS X kX4_108 (tJ9_min_7cf53 (nI W) (nI 8)) rfl rfl (Nat.le_of_ble_eq_true rfl) ⟨by decide, by decide⟩ ⟨by decide, by decide⟩ dX4_routeRow_14 ?_
  rintro _ g1 s1 ⟨rfl, h8, h9⟩
  replace h8 := h8.symm
  subst h8
  replace h9 := h9.symm
  subst h9
  rw [zmin_n (by omega) (by omega), Nat.min_eq_left hW8]
  refine z_runS X kX4_114 (tJ9_max_7cf53 (nI 0) (nI W)) rfl rfl (Nat.le_of_ble_eq_true rfl) ⟨by decide, by decide⟩ ⟨by decide, by decide⟩ dX4_routeRow_17 ?_
  rintro _ g1 s1 ⟨rfl, h8, h9⟩
  replace h8 := h8.symm
  subst h8
  replace h9 := h9.symm
  subst h9
  rw [zmax_n (by omega) (by omega), Nat.max_eq_right (Nat.zero_le W)]
  refine z_runS X kX4_117N (tJ7_copyOf8 (j := j) W (zsa_17 hS) hW8 (by omega) hW8 hw hj hj0) rfl rfl (Nat.le_of_ble_eq_true rfl) ⟨by decide, by decide⟩ ⟨by decide, by decide⟩ dX4_routeRow_20 ?_
  rintro _ gN s1 ⟨a20, rfl, hgN, hC⟩
  refine z_aret X (by decide) (by decide) rfl (Or.inr ⟨_, rfl⟩) (Or.inr ⟨_, rfl⟩) dX4_routeRow_23 ?_
  exact ⟨_, rfl, hgN, hC⟩
