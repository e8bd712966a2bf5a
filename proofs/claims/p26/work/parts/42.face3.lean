/-! contracts of the class's face: minutes, reading -/
/-- one minute of the messages: state, office, leg, left -/
def zmi1 (g : zSh) (nm : Nat) (kd pd : Nat → Nat) (ro : Nat → Nat → Nat) (ca co sp : Nat → Nat) (br hc fb : Nat → Bool) (q : (Nat → Nat) × (Nat → Nat) × (Nat → Nat) × (Nat → Nat)) : (Nat → Nat) × (Nat → Nat) × (Nat → Nat) × (Nat → Nat) :=
  (zmx (zst2 g q.1 q.2.2.1 (zcb q.1 q.2.2.1 ro) (zcj kd (zcb q.1 q.2.2.1 ro) nm (q.2.2.2, fun c => if br c then 0 else sp c) 3).1 (zoE ca co (zcb q.1 q.2.2.1 ro) q.2.1) hc fb) q.1 nm, zmx (zia2 q.2.1 (zcb q.1 q.2.2.1 ro) (zcj kd (zcb q.1 q.2.2.1 ro) nm (q.2.2.2, fun c => if br c then 0 else sp c) 3).1 (zoE ca co (zcb q.1 q.2.2.1 ro) q.2.1)) q.2.1 nm, zmx (zlg2 q.2.2.1 (zcb q.1 q.2.2.1 ro) (zcj kd (zcb q.1 q.2.2.1 ro) nm (q.2.2.2, fun c => if br c then 0 else sp c) 3).1) q.2.2.1 nm, zmx (zlf2 pd (zcb q.1 q.2.2.1 ro) (zcj kd (zcb q.1 q.2.2.1 ro) nm (q.2.2.2, fun c => if br c then 0 else sp c) 3).1) (zcj kd (zcb q.1 q.2.2.1 ro) nm (q.2.2.2, fun c => if br c then 0 else sp c) 3).1 nm)
def zmn (f : (Nat → Nat) × (Nat → Nat) × (Nat → Nat) × (Nat → Nat) → (Nat → Nat) × (Nat → Nat) × (Nat → Nat) × (Nat → Nat)) (q : (Nat → Nat) × (Nat → Nat) × (Nat → Nat) × (Nat → Nat)) : Nat → (Nat → Nat) × (Nat → Nat) × (Nat → Nat) × (Nat → Nat)
  | 0 => q
  | n + 1 => f (zmn f q n)
def zMq (g : zSh) (σ : zIn) (nm no : Nat) (q : (Nat → Nat) × (Nat → Nat) × (Nat → Nat) × (Nat → Nat)) : Prop := zMd g σ nm no q.1 q.2.1 q.2.2.1 q.2.2.2
theorem zFM_t {a b c : zIn} (h1 : zFM a b) (h2 : zFM b c) : zFM a c := fun i k q1 q2 => (h2 i k q1 q2).trans (h1 i k q1 q2)
theorem zMs_F {g : zSh} {σ τ : zIn} {nm nc : Nat} {kd pd : Nat → Nat} {ro : Nat → Nat → Nat} {hc : Nat → Bool} (hn : nm ≤ 60) (h : zMs g σ nm nc kd pd ro hc) (hF : zFM σ τ) : zMs g τ nm nc kd pd ro hc := by
  intro m hm
  obtain ⟨h1, h2, h3, h4, h5, h6, h7⟩ := h m hm
  refine ⟨h1, by rw [hF _ _ (by omega) (by omega)]; exact h2, h3, by rw [hF _ _ (by omega) (by omega)]; exact h4, h5, by rw [hF _ _ (by omega) (by omega)]; exact h6, fun q hq => ?_⟩
  rw [hF _ _ (by omega) (by omega)]; exact h7 q hq
theorem zCs_F {σ τ : zIn} {nc no : Nat} {ca co sp : Nat → Nat} {br : Nat → Bool} (hn : nc ≤ 12) (h : zCs σ nc no ca co sp br) (hF : zFM σ τ) : zCs τ nc no ca co sp br := by
  intro c hc
  obtain ⟨h1, h2, h3, h4⟩ := h c hc
  refine ⟨?_, ?_, ?_, ?_⟩
  · rw [hF _ _ (by omega) (by omega)]; exact h1
  · rw [hF _ _ (by omega) (by omega)]; exact h2
  · rw [hF _ _ (by omega) (by omega)]; exact h3
  · rw [hF _ _ (by omega) (by omega)]; exact h4
abbrev NX8_pass : zM := (yX8_pass, cX8_pass, 3, (some .int), 6, 1, 6, 140)
set_option maxHeartbeats 4000000 in
set_option maxRecDepth 100000 in
theorem tX8_pass {l : Launch} {D : va_G} {cy : Nat → ClassId} {z0 : zRg} {g : zSh} {σ : zIn} (hfl : l.stackTraces = false) {no nc nm mi : Nat} {kd pd : Nat → Nat} {ro : Nat → Nat → Nat} {hc fb br : Nat → Bool} {ca co sp : Nat → Nat} (q : (Nat → Nat) × (Nat → Nat) × (Nat → Nat) × (Nat → Nat)) (xq : Int32) (hS : zS g) (hO : zO g no) (hno : σ 13 4 = nI no) (hK : zC g nc) (hnc : σ 13 5 = nI nc) (hG : zG g nm) (hnm : σ 1 8 = nI nm) (hmi : σ 1 9 = nI mi) (hmi2 : mi ≤ 1000000) (hMs : zMs g σ nm nc kd pd ro hc) (hMq : zMq g σ nm no q) (hCs : zCs σ nc no ca co sp br) (hfb : ∀ o, o < no → σ (100 + o) 2 = zb (fb o)) : z_Cx l D cy z0 NX8_pass [.ref (g.2.1 1), .int xq] g σ (fun v g' σ' => zx_pass mi xq = 0 ∧ g' = g ∧ ∃ j2 k2 τ2, xq = nI j2 ∧ 1 ≤ j2 ∧ j2 ≤ 60 ∧ mi + j2 ≤ 1000000 ∧ k2 ≤ j2 ∧ zFM σ τ2 ∧ zMq g τ2 nm no (zmn (zmi1 g nm kd pd ro ca co sp br hc fb) q k2) ∧ (k2 < j2 → ∀ m, m < nm → τ2 (200 + m) 9 ≠ 0) ∧ σ' = z_up τ2 1 9 (nI (mi + j2)) ∧ v = some (.int (nI (mi + j2)))) (fun E g' σ' => zXk ["java/lang/IllegalArgumentException", "java/lang/IllegalStateException"] (zx_pass mi xq) E ∧ g' = g ∧ σ' = σ) := by
  have hn8 := hO.1
  have hn12 := hK.1
  have hn60 := hG.1
  refine z_ofX hfl (by decide) (z_cr (z_ci z_c0)) (Nat.le_of_ble_eq_true rfl) ?_
  intro p e s m args below meth c X Y
  refine z_iload_n X dX8_pass_0 rfl ?_
  refine z_iconst (v := 1) X (by decide) dX8_pass_1 ?_
  refine z_bipush (v := 60) X (by decide) dX8_pass_2 ?_
  refine z_runS X kX8_68 (tX8_isOutside _ _ _) rfl rfl (Nat.le_of_ble_eq_true rfl) ⟨by decide, by decide⟩ ⟨by decide, by decide⟩ dX8_pass_4 ?_
  rintro _ g1 s1 ⟨rfl, h8, h9⟩
  replace h8 := h8.symm
  subst h8
  replace h9 := h9.symm
  subst h9
  refine z_if_eq (tgt := 21) X dX8_pass_7 (by decide) (fun c_7 => ?_) (fun c_7 => ?_)
  · skip
    try simp (disch := omega) only [zb_notn, zb_not, zb_n0, zb_0, Bool.not_eq_false, Bool.not_eq_true, Bool.not_eq_true', Bool.not_eq_false', decide_eq_true_eq, decide_eq_false_iff_not, Classical.not_not] at c_7
    obtain ⟨j, hj1, hj2, rfl⟩ := zrg_k (n := 60) (by decide) c_7
    have ek : zn (nI j) = j := zn_nI (by omega)
    refine z_aload_n X dX8_pass_21 rfl ?_
    refine z_geti X fX8_65 (zso_1 hS) rfl dX8_pass_22 ?_
    rw [hmi]
    refine z_iload_n X dX8_pass_25 rfl ?_
    refine z_iaddN X dX8_pass_26 ?_
    refine z_ldcw X qX8_259 dX8_pass_27 ?_
    rw [zkM]
    refine z_icmp_le (tgt := 44) X dX8_pass_30 (by decide) (fun c_30 => ?_) (fun c_30 => ?_)
    · skip
      try simp (disch := omega) only [zk0, nI_leI, nI_ltI, nI_eq, zbk_notn, zbk_not, zbk_n0, zbk_0, zb_0, zb_n0, zb_not, zb_notn, Bool.not_eq_false, Bool.not_eq_true, Bool.not_eq_true', Bool.not_eq_false', decide_eq_true_eq, decide_eq_false_iff_not, Classical.not_not] at c_30
      have loop_46 : ∀ (n : Nat) (k : Nat) (τ : zIn) (hk : k ≤ j) (hF : zFM σ τ) (hQ : zMq g τ nm no (zmn (zmi1 g nm kd pd ro ca co sp br hc fb) q k)) (hn : j - k < n), z_V p l e (zRm NX8_pass) s m args below meth c 3 D cy z0 0 0 (zQx NX8_pass below D cy z0 (fun v g' σ' => zx_pass mi (nI j) = 0 ∧ g' = g ∧ ∃ j2 k2 τ2, (nI j) = nI j2 ∧ 1 ≤ j2 ∧ j2 ≤ 60 ∧ mi + j2 ≤ 1000000 ∧ k2 ≤ j2 ∧ zFM σ τ2 ∧ zMq g τ2 nm no (zmn (zmi1 g nm kd pd ro ca co sp br hc fb) q k2) ∧ (k2 < j2 → ∀ m, m < nm → τ2 (200 + m) 9 ≠ 0) ∧ σ' = z_up τ2 1 9 (nI (mi + j2)) ∧ v = some (.int (nI (mi + j2)))) (fun E g' σ' => zXk ["java/lang/IllegalArgumentException", "java/lang/IllegalStateException"] (zx_pass mi (nI j)) E ∧ g' = g ∧ σ' = σ) args s) 46 [some (.ref (g.2.1 1)), some (.int (nI j)), some (.int (nI k))] [] g τ := by
        intro n
        induction n with
        | zero => intro k τ hk hF hQ hn; exact absurd hn (Nat.not_lt_zero _)
        | succ n ih_46 =>
          intro k τ hk hF hQ hn
          have hno2 : τ 13 4 = nI no := by rw [hF _ _ (by omega) (by omega)]; exact hno
          have hnc2 : τ 13 5 = nI nc := by rw [hF _ _ (by omega) (by omega)]; exact hnc
          have hnm2 : τ 1 8 = nI nm := by rw [hF _ _ (by omega) (by omega)]; exact hnm
          have hmi3 : τ 1 9 = nI mi := by rw [hF _ _ (by omega) (by omega)]; exact hmi
          refine z_iload_n X dX8_pass_46 rfl ?_
          refine z_iload_n X dX8_pass_47 rfl ?_
          refine z_icmp_ge (tgt := 68) X dX8_pass_48 (by decide) (fun c_48 => ?_) (fun c_48 => ?_)
          · skip
            try simp (disch := omega) only [zk0, nI_leI, nI_ltI, nI_eq, zbk_notn, zbk_not, zbk_n0, zbk_0, zb_0, zb_n0, zb_not, zb_notn, Bool.not_eq_false, Bool.not_eq_true, Bool.not_eq_true', Bool.not_eq_false', decide_eq_true_eq, decide_eq_false_iff_not, Classical.not_not] at c_48
            refine z_aload_n X dX8_pass_68 rfl ?_
            refine z_dup X rfl dX8_pass_69 ?_
            refine z_geti X fX8_65 (zso_1 hS) rfl dX8_pass_70 ?_
            rw [hmi3]
            refine z_iload_n X dX8_pass_73 rfl ?_
            refine z_iaddN X dX8_pass_74 ?_
            refine z_puti X fX8_65 (zso_1 hS) rfl dX8_pass_75 ?_
            refine z_aload_n X dX8_pass_78 rfl ?_
            refine z_geti X fX8_65 (zso_1 hS) rfl dX8_pass_79 ?_
            rw [z_up_app, if_pos rfl, if_pos rfl]
            refine z_rx ?_
            refine z_iret X (by decide) (by decide) rfl dX8_pass_82 ?_
            exact ⟨by unfold zx_pass; rw [if_neg c_7, if_neg (by rw [ek]; omega)], rfl, j, k, τ, rfl, hj1, hj2, by omega, hk, hF, hQ, (by first | exact (fun q9 => absurd q9 (by omega)) | exact (fun _ m hm q9 => absurd (ht9.mpr ⟨m, hm, q9⟩) (by rw [c_55]; decide))), rfl, rfl⟩
          · skip
            try simp (disch := omega) only [zk0, nI_leI, nI_ltI, nI_eq, zbk_notn, zbk_not, zbk_n0, zbk_0, zb_0, zb_n0, zb_not, zb_notn, Bool.not_eq_false, Bool.not_eq_true, Bool.not_eq_true', Bool.not_eq_false', decide_eq_true_eq, decide_eq_false_iff_not, Classical.not_not] at c_48
            refine z_aload_n X dX8_pass_51 rfl ?_
            refine z_runV X kX8_262 (tX8_isAnyUnderway hS hG hnm2) (zso_1 hS) rfl rfl (Nat.le_of_ble_eq_true rfl) ⟨by decide, by decide⟩ ⟨by decide, by decide⟩ dX8_pass_52 ?_
            rintro _ g1 s1 ⟨t9, rfl, h8, h9, ht9⟩
            replace h8 := h8.symm
            subst h8
            replace h9 := h9.symm
            subst h9
            refine z_if_eq (tgt := 68) X dX8_pass_55 (by decide) (fun c_55 => ?_) (fun c_55 => ?_)
            · skip
              try simp (disch := omega) only [zb_notn, zb_not, zb_n0, zb_0, Bool.not_eq_false, Bool.not_eq_true, Bool.not_eq_true', Bool.not_eq_false', decide_eq_true_eq, decide_eq_false_iff_not, Classical.not_not] at c_55
              refine z_aload_n X dX8_pass_68 rfl ?_
              refine z_dup X rfl dX8_pass_69 ?_
              refine z_geti X fX8_65 (zso_1 hS) rfl dX8_pass_70 ?_
              rw [hmi3]
              refine z_iload_n X dX8_pass_73 rfl ?_
              refine z_iaddN X dX8_pass_74 ?_
              refine z_puti X fX8_65 (zso_1 hS) rfl dX8_pass_75 ?_
              refine z_aload_n X dX8_pass_78 rfl ?_
              refine z_geti X fX8_65 (zso_1 hS) rfl dX8_pass_79 ?_
              rw [z_up_app, if_pos rfl, if_pos rfl]
              refine z_rx ?_
              refine z_iret X (by decide) (by decide) rfl dX8_pass_82 ?_
              exact ⟨by unfold zx_pass; rw [if_neg c_7, if_neg (by rw [ek]; omega)], rfl, j, k, τ, rfl, hj1, hj2, by omega, hk, hF, hQ, (by first | exact (fun q9 => absurd q9 (by omega)) | exact (fun _ m hm q9 => absurd (ht9.mpr ⟨m, hm, q9⟩) (by rw [c_55]; decide))), rfl, rfl⟩
            · skip
              try simp (disch := omega) only [zb_notn, zb_not, zb_n0, zb_0, Bool.not_eq_false, Bool.not_eq_true, Bool.not_eq_true', Bool.not_eq_false', decide_eq_true_eq, decide_eq_false_iff_not, Classical.not_not] at c_55
              refine z_aload_n X dX8_pass_58 rfl ?_
              refine z_runV X kX8_266 (tX8_carryMinute (kd := kd) (pd := pd) (ro := ro) (hc := hc) (fb := fb) (br := br) (ca := ca) (co := co) (sp := sp) hS hO hno2 hK hnc2 hG hnm2 (zMs_F (by omega) hMs hF) hQ (zCs_F (by omega) hCs hF) (fun o ho => by rw [hF _ _ (by omega) (by omega)]; exact hfb o ho)) (zso_1 hS) rfl rfl (Nat.le_of_ble_eq_true rfl) ⟨by decide, by decide⟩ ⟨by decide, by decide⟩ dX8_pass_59 ?_
              rintro _ g1 s6 ⟨rfl, h8, h6, hQ6⟩
              replace h8 := h8.symm
              subst h8
              replace hQ6 : zMq g s6 nm no (zmn (zmi1 g nm kd pd ro ca co sp br hc fb) q (k + 1)) := hQ6
              refine z_inc1 X dX8_pass_62 rfl (by decide) ?_
              refine z_goto (tgt := 46) X dX8_pass_65 (by decide) ?_
              exact ih_46 (k + 1) s6 (by omega) (zFM_t hF h6) hQ6 (by omega)
      refine z_iconst (v := nI 0) X (by decide) dX8_pass_44 ?_
      refine z_istore_n X dX8_pass_45 (by decide) ?_
      exact loop_46 (j - 0 + 1) 0 σ (Nat.zero_le _) (fun _ _ _ _ => rfl) hMq (by omega)
    · skip
      try simp (disch := omega) only [zk0, nI_leI, nI_ltI, nI_eq, zbk_notn, zbk_not, zbk_n0, zbk_0, zb_0, zb_n0, zb_not, zb_notn, Bool.not_eq_false, Bool.not_eq_true, Bool.not_eq_true', Bool.not_eq_false', decide_eq_true_eq, decide_eq_false_iff_not, Classical.not_not] at c_30
      refine z_throwW X Y (cls := "java/lang/IllegalStateException") (text := "the minute would be above 1000000") (names := zENs) (by decide +kernel) (by decide +kernel) (z_gd 559 (by decide +kernel) (by decide +kernel)) (z_gd 39 (by decide +kernel) (by decide +kernel)) (List.mem_of_getElem? (i := 872) (by decide +kernel)) zat_IllegalStateException dX8_pass_33 dX8_pass_36 dX8_pass_37 dX8_pass_40 dX8_pass_43 (by decide) (by decide) (Nat.le_of_ble_eq_true rfl) (Nat.le_of_ble_eq_true rfl) (Nat.le_of_ble_eq_true rfl) (Nat.le_of_ble_eq_true rfl) ?_
      exact ⟨⟨1, by unfold zx_pass; rw [if_neg c_7, if_pos (by rw [ek]; omega)], rfl⟩, rfl, rfl⟩
  · skip
    try simp (disch := omega) only [zb_notn, zb_not, zb_n0, zb_0, Bool.not_eq_false, Bool.not_eq_true, Bool.not_eq_true', Bool.not_eq_false', decide_eq_true_eq, decide_eq_false_iff_not, Classical.not_not] at c_7
    refine z_throwW X Y (cls := "java/lang/IllegalArgumentException") (text := "minutes is out of range") (names := zENs) (by decide +kernel) (by decide +kernel) (z_gd 321 (by decide +kernel) (by decide +kernel)) (z_gd 38 (by decide +kernel) (by decide +kernel)) (List.mem_of_getElem? (i := 870) (by decide +kernel)) zat_IllegalArgumentException dX8_pass_10 dX8_pass_13 dX8_pass_14 dX8_pass_17 dX8_pass_20 (by decide) (by decide) (Nat.le_of_ble_eq_true rfl) (Nat.le_of_ble_eq_true rfl) (Nat.le_of_ble_eq_true rfl) (Nat.le_of_ble_eq_true rfl) ?_
    exact ⟨⟨0, by unfold zx_pass; rw [if_pos c_7], rfl⟩, rfl, rfl⟩
