/-! contracts: Arrays.copyOf, the constructor of a message -/
/-- row i's first n copied to row j -/
def zcpy (σ : zIn) (i j n : Nat) : zIn := fun i' k' => if i' = j then va_cpy (σ i) (σ j) 0 0 n k' else σ i' k'
theorem zcpy_at {σ : zIn} {i j n k : Nat} (h : k < n) : zcpy σ i j n j k = σ i k := by
  unfold zcpy va_cpy
  rw [if_pos rfl, if_pos ⟨Nat.zero_le _, by omega⟩]; simp
theorem zcpy_ne {σ : zIn} {i j n q : Nat} (h : q ≠ j) : zcpy σ i j n q = σ q := by
  funext k; unfold zcpy; rw [if_neg h]
section
variable {p : Program} {l : Launch} {e : Env} {R : Room} {s : State} {m : MethodId} {args : Array Value} {below : List Frame} {meth : Method} {c : Code} {cells slots : Nat} {Q : State → Prop} {own nm : String} {cc : ByteArray} {nL : Nat} {ret : Option FieldType} {D : va_G} {cy : Nat → ClassId} {z0 pc : Nat} {L : List (Option Value)} {st : List Value} {g : zSh} {σ : zIn}
theorem z_copyi (X : z_cx p s m args meth c own cc nL ret nm D cy z0) {idx i j ni nj n : Nat} (hl : Cond.methodLink own idx arraycopyName ∈ lw_good) (hn : Cond.native arraycopyName ∈ lw_good) (hst : Cond.static arraycopyName ∈ lw_good) (hini : Cond.initialized "java/lang/System" ∈ lw_good) (hi : z_ar g i 0 ni) (hj : z_ar g j 0 nj) (h1 : n ≤ ni) (h2 : n ≤ nj) (h3 : n < 2 ^ 31) (hfr : 1 ≤ R.frames) (hlo : (st.map fun v => v.category).sum + (nativeFrameWords "java/lang/System" "arraycopy" 5 + 11) ≤ R.locals) (d : decode cc pc = .ok (.invokestatic idx, 3))
    (kk : z_V p l e R s m args below meth c nL D cy z0 cells slots Q (pc + 3) L st g (zcpy σ i j n)) : z_V p l e R s m args below meth c nL D cy z0 cells slots Q pc L (.int (nI n) :: .int (nI 0) :: .ref (g.2.1 j) :: .int (nI 0) :: .ref (g.2.1 i) :: st) g σ := by
  intro H locs ls hP hD hS hL
  obtain ⟨hx, hb', hml, hown, hts, hN, hK, hz, hr, hnm, hlk⟩ := X
  obtain ⟨q0, p1, p2⟩ := z_get_k (cy := cy) (σ := σ) hi.1
  obtain ⟨q1, r1, r2⟩ := z_get_k (cy := cy) (σ := σ) hj.1
  rw [z_cel_I hi.2.1 hi.2.2] at p2
  rw [z_cel_I hj.2.1 hj.2.2] at r2
  have ec : (nI n).toNatClampNeg = n := nI_clamp h3
  have e0 : (nI 0).toNatClampNeg = 0 := rfl
  refine va_copyi hx hb' (hml.trans hL.1.1.symm) hown (hts _ hl) (hts _ hn) (hts _ hst) (hts _ hini) hK hP hD hS q0 q1 0 0 p2 r2 rfl rfl rfl (by decide) (by decide) (nI_pos h3) (by rw [ec, e0]; omega) (by rw [ec, e0]; omega) (fun _ _ => rfl) hfr hlo d (fun H1 locs1 h5 h6 h7 => ?_)
  have e9 : (z_w cy g σ).set q1 (g.2.1 j, .inl (cy 0, nj, .inl (va_cpy (σ i) (σ j) (nI 0).toNatClampNeg (nI 0).toNatClampNeg (nI n).toNatClampNeg))) = z_w cy g (zcpy σ i j n) := by
    rw [ec, e0]
    refine z_set hD r1 rfl rfl (fun q hq => by rw [zcpy_ne hq]) ?_
    rw [z_cel_I hj.2.1 hj.2.2]
    congr 4
    funext k
    unfold zcpy; rw [if_pos rfl]
  rw [e9] at h5 h6
  exact kk H1 locs1 ls h5 h6 h7 hL
end
abbrev NJ7_copyOf : zM := (yJ7_copyOf_59c91, cJ7_copyOf_59c91, 3, (some (.array .int)), 1, 1, 8, 30)
theorem kJ7_304 : z_cS RJ7 304 MJ9_min_7cf53 2 := ⟨⟨Or.inl (z_gd 791 (by decide +kernel) (by decide +kernel)), z_gd 705 (by decide +kernel) (by decide +kernel), z_gd 73 (by decide +kernel) (by decide +kernel), ⟨by decide, by decide⟩, by decide +kernel⟩, z_gd 704 (by decide +kernel) (by decide +kernel)⟩
theorem nJ7_150 : Cond.methodLink RJ7 150 arraycopyName ∈ lw_good := z_gd 792 (by decide +kernel) (by decide +kernel)
theorem nJ7_nat : Cond.native arraycopyName ∈ lw_good := z_gd 794 (by decide +kernel) (by decide +kernel)
theorem nJ7_sta : Cond.static arraycopyName ∈ lw_good := z_gd 793 (by decide +kernel) (by decide +kernel)
theorem nJ7_ini : Cond.initialized "java/lang/System" ∈ lw_good := z_gd 75 (by decide +kernel) (by decide +kernel)
set_option maxHeartbeats 4000000 in
theorem tJ7_copyOf {l : Launch} {D : va_G} {cy : Nat → ClassId} {z0 : Nat} {g : zSh} {σ : zIn} {i j n9 : Nat} (n : Nat) (ha : z_ar g i 0 n9) (hn : n < n9) (h9 : n9 ≤ 8) (hw : z_wf g) (hj : j ∉ g.1) (hj0 : j ≠ 0) : z_Ct l D cy z0 NJ7_copyOf [.ref (g.2.1 i), .int (nI n)] g σ (fun v g' σ' => ∃ a, v = some (.ref a) ∧ g' = z_add g j a 10 n ∧ σ' = zcpy (z_zero σ j) i j n) := by
  refine z_ofF (by decide +kernel) (z_cr (z_ci z_c0)) (Nat.le_of_ble_eq_true rfl) ?_
  intro p e s m args below meth c X
  refine z_iload_n X dJ7_copyOf_59c91_0 rfl ?_
  refine z_aload_n X dJ7_copyOf_59c91_1 rfl ?_
  refine z_alen X (t := 0) (by decide) ha dJ7_copyOf_59c91_2 ?_
  refine z_icmp_ne (tgt := 14) X dJ7_copyOf_59c91_3 (by decide) (fun c3 => ?_) (fun c3 => ?_)
  · refine z_iload_n X dJ7_copyOf_59c91_14 rfl ?_
    refine z_newaI X (i := j) (N := n) ac_int hw hj hj0 (nI_pos (by omega)) (nI_clamp (by omega)) (by omega) (Nat.le_of_ble_eq_true rfl) (by show 0 + n ≤ 8; omega) dJ7_copyOf_59c91_15 (fun a => ?_)
    obtain ⟨gN, hgN⟩ : ∃ g1, g1 = z_add g j a 10 n := ⟨_, rfl⟩
    rw [show z_add g j a (10 + 0) n = gN from hgN.symm]
    have ea : a = gN.2.1 j := by rw [hgN]; exact z_add_at.symm
    have hij : i ≠ j := fun q => hj (q ▸ ha.1)
    have eo : g.2.1 i = gN.2.1 i := by rw [hgN]; exact (z_add_ne hij).symm
    have hai : z_ar gN i 0 n9 := by rw [hgN]; exact z_ar_add ha hj
    have haj : z_ar gN j 0 n := by rw [hgN]; exact z_ar_at (t := 0)
    rw [ea, eo]
    refine z_astore_n X dJ7_copyOf_59c91_17 (by decide) ?_
    refine z_aload_n X dJ7_copyOf_59c91_18 rfl ?_
    refine z_iconst (v := nI 0) X (by decide) dJ7_copyOf_59c91_19 ?_
    refine z_aload_n X dJ7_copyOf_59c91_20 rfl ?_
    refine z_iconst (v := nI 0) X (by decide) dJ7_copyOf_59c91_21 ?_
    refine z_aload_n X dJ7_copyOf_59c91_22 rfl ?_
    refine z_alen X (t := 0) (by decide) hai dJ7_copyOf_59c91_23 ?_
    refine z_iload_n X dJ7_copyOf_59c91_24 rfl ?_
    refine z_runS X kJ7_304 (tJ9_min_7cf53 _ _) rfl rfl (Nat.le_of_ble_eq_true rfl) ⟨by decide, by decide⟩ ⟨by decide, by show 0 + n + 0 ≤ 8; omega⟩ dJ7_copyOf_59c91_25 ?_
    rintro _ g1 s1 ⟨rfl, h8, h9'⟩
    replace h8 := h8.symm
    subst h8
    subst h9'
    have em : (if nI n9 ≤ nI n then nI n9 else nI n) = nI n := if_neg (by rw [nI_leI (by omega) (by omega)]; omega)
    rw [em]
    refine z_copyi X nJ7_150 nJ7_nat nJ7_sta nJ7_ini hai haj (by omega) (Nat.le_refl _) (by omega) (by decide) (by decide) dJ7_copyOf_59c91_28 ?_
    refine z_aload_n X dJ7_copyOf_59c91_31 rfl ?_
    refine z_aret X (by decide) (by show 0 + n + 0 ≤ 8; omega) rfl (Or.inr ⟨_, rfl⟩) (Or.inr ⟨_, rfl⟩) dJ7_copyOf_59c91_32 ?_
    exact ⟨_, by rw [← ea], hgN, rfl⟩
  · exfalso
    rw [nI_eq (by omega) (by omega)] at c3
    omega