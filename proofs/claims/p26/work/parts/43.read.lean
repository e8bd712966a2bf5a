/-! contracts of the class's face: reading -/
def zx_read (nm : Nat) (x y : Int32) : Nat := if ¬ (zin x nm = true ∧ 0 ≤ y) then 1 else 0
/-- what one word is read as: the entry (-1: none) and how many ideas -/
def zrd1 (σ : zIn) (ne key : Nat) (w me : Int32) (q : Nat) : Prop := (¬ 0 ≤ w ∧ me = -1 ∧ q = 1) ∨ (0 ≤ w ∧ ∃ r, zonly (σ 4) ne w r ∧ ((r = -1 ∧ me = -1 ∧ q = 1) ∨ ∃ k j, k < ne ∧ r = nI k ∧ j < ne ∧ j = (((k : Int) - key) % ne).toNat ∧ me = nI j ∧ zplen (σ 5) j q))
def zrdr (σ : zIn) (w me : Int32) (d : Nat) : Int32 := if ¬ 0 ≤ w then (-1) - w - 1 else if me = -1 then -2 else σ 5 (4 * zn me + d)
def zrdA (σ : zIn) (ne key m W p : Nat) (me : Nat → Int32) (ql : Nat → Nat) (r : Int32) : Prop := (zsum ql W ≤ p ∧ r = -1 ∧ ∀ i, i < W → zrd1 σ ne key (σ (400 + m) i) (me i) (ql i)) ∨ ∃ i, i < W ∧ (∀ j, j < i + 1 → zrd1 σ ne key (σ (400 + m) j) (me j) (ql j)) ∧ zsum ql i ≤ p ∧ p < zsum ql (i + 1) ∧ r = zrdr σ (σ (400 + m) i) (me i) (p - zsum ql i)
theorem zneg39 : ∀ K, K < 40 → (-(nI K)).toInt = -(K : Int) := by decide
def zudI (f : Nat → Int32) (k : Nat) (v : Int32) : Nat → Int32 := fun i => if i = k then v else f i
theorem zud_sum {f : Nat → Nat} {k v : Nat} : ∀ n, n ≤ k → zsum (zud f k v) n = zsum f n
  | 0, _ => rfl
  | n + 1, h => by
    show zsum (zud f k v) n + zud f k v n = zsum f n + f n
    rw [zud_sum n (by omega)]
    unfold zud
    rw [if_neg (by omega)]
theorem zud_sum1 {f : Nat → Nat} {k v : Nat} : zsum (zud f k v) (k + 1) = zsum f k + v := by
  show zsum (zud f k v) k + zud f k v k = _
  rw [zud_sum k (Nat.le_refl _)]
  unfold zud
  rw [if_pos rfl]
theorem zrd_ext {P : Nat → Int32 → Nat → Prop} {me : Nat → Int32} {ql : Nat → Nat} {k q : Nat} {m : Int32} (h : ∀ i, i < k → P i (me i) (ql i)) (h2 : P k m q) : ∀ i, i < k + 1 → P i (zudI me k m i) (zud ql k q i) := by
  intro i hi
  unfold zudI zud
  by_cases e : i = k
  · rw [if_pos e, if_pos e, e]; exact h2
  · rw [if_neg e, if_neg e]; exact h i (by omega)
abbrev NX8_read : zM := (yX8_read, cX8_read, 11, (some .int), 6, 1, 6, 140)
set_option maxHeartbeats 4000000 in
set_option maxRecDepth 100000 in
theorem tX8_read {l : Launch} {D : va_G} {cy : Nat → ClassId} {z0 : zRg} {g : zSh} {σ : zIn} (hfl : l.stackTraces = false) {no nm ne : Nat} {ky tt : Nat → Nat} (xq yq : Int32) (hS : zS g) (hO : zO g no) (hno : σ 13 4 = nI no) (hG : zG g nm) (hnm : σ 1 8 = nI nm) (hL : ∀ m, m < nm → g.2.2.2.1 (300 + m) ≤ 24) (he : σ 2 5 = nI ne) (he2 : ne ≤ 40) (hC : ∀ k, k < ne → zwd (σ 4 k)) (hky : ∀ o, o < no → σ (100 + o) 1 = nI (ky o) ∧ ky o ≤ 39) (hto : ∀ m, m < nm → σ (200 + m) 1 = nI (tt m) ∧ tt m < no) (hnw : ∀ m, m < nm → ∀ k, k < g.2.2.2.1 (300 + m) → 0 ≤ σ (400 + m) k → zwd (σ (400 + m) k)) : z_Cx l D cy z0 NX8_read [.ref (g.2.1 1), .int xq, .int yq] g σ (fun v g' σ' => zx_read nm xq yq = 0 ∧ g' = g ∧ zfo σ σ' ∧ ∃ m2 p2 me ql r, m2 < nm ∧ xq = nI m2 ∧ yq = nI p2 ∧ p2 < 2 ^ 31 ∧ v = some (.int r) ∧ zrdA σ ne (ky (tt m2)) m2 (g.2.2.2.1 (300 + m2)) p2 me ql r) (fun E g' σ' => zXk ["java/lang/IndexOutOfBoundsException"] (zx_read nm xq yq) E ∧ g' = g ∧ σ' = σ) := by
  have hn60 := hG.1
  have hn8 := hO.1
  refine z_ofX hfl (by decide) (z_cr (z_ci (z_ci z_c0))) (Nat.le_of_ble_eq_true rfl) ?_
  intro p e s m args below meth c X Y
  refine z_aload_n X dX8_read_0 rfl ?_
  refine z_iload_n X dX8_read_1 rfl ?_
  cases hz : zin xq nm
  · skip
    skip
    refine z_runV X kX8_227 (tX8_messageAtN xq hS hG hnm hz) (zso_1 hS) rfl rfl (Nat.le_of_ble_eq_true rfl) ⟨by decide, by decide⟩ ⟨by decide, by decide⟩ dX8_read_2 ?_
    rintro _ g1 s1 ⟨rfl, h8, h9⟩
    replace h8 := h8.symm
    subst h8
    replace h9 := h9.symm
    subst h9
    refine z_astore_nN X dX8_read_5 (by decide) ?_
    refine z_aload_nN X dX8_read_6 rfl ?_
    refine z_ifnullN (tgt := 14) X dX8_read_7 (by decide) ?_
    refine z_throwW X Y (cls := "java/lang/IndexOutOfBoundsException") (text := "no such message, or place is below 0") (names := zENs) (by decide +kernel) (by decide +kernel) (z_gd 248 (by decide +kernel) (by decide +kernel)) (z_gd 40 (by decide +kernel) (by decide +kernel)) (List.mem_of_getElem? (i := 346) (by decide +kernel)) zat_IndexOutOfBoundsException dX8_read_14 dX8_read_17 dX8_read_18 dX8_read_21 dX8_read_24 (by decide) (by decide) (Nat.le_of_ble_eq_true rfl) (Nat.le_of_ble_eq_true rfl) (Nat.le_of_ble_eq_true rfl) (Nat.le_of_ble_eq_true rfl) ?_
    exact ⟨⟨0, by unfold zx_read; simp_all, rfl⟩, rfl, rfl⟩
  · skip
    obtain ⟨m9, hm99, rfl⟩ := zin_t hz (by have := hG.1; omega)
    have hM := hG.2.1 m9 hm99
    refine z_runV X kX8_227 (tX8_messageAt m9 hS hG hnm hm99) (zso_1 hS) rfl rfl (Nat.le_of_ble_eq_true rfl) ⟨by decide, by decide⟩ ⟨by decide, by decide⟩ dX8_read_2 ?_
    rintro _ g1 s1 ⟨rfl, h8, h9⟩
    replace h8 := h8.symm
    subst h8
    replace h9 := h9.symm
    subst h9
    refine z_astore_n X dX8_read_5 (by decide) ?_
    refine z_aload_n X dX8_read_6 rfl ?_
    refine z_ifnull X dX8_read_7 ?_
    refine z_iload_n X dX8_read_10 rfl ?_
    refine z_if_ge (tgt := 25) X dX8_read_11 (by decide) (fun c_11 => ?_) (fun c_11 => ?_)
    · skip
      have hL24 := hL m9 hm99
      obtain ⟨p9, hp9, rfl⟩ := nI_of (Int32.not_lt.mpr c_11)
      have hF := hO.2.1 (tt m9) (hto m9 hm99).2
      refine z_aload_n X dX8_read_25 rfl ?_
      refine z_getr2 X fX8_35 (zso_1 hS) (zsr_1_3 hS) rfl dX8_read_26 ?_
      refine z_aload_n X dX8_read_29 rfl ?_
      refine z_geti X fX8_294 (hM.1) rfl dX8_read_30 ?_
      rw [(hto m9 hm99).1]
      refine z_runV X kX8_138 (tX4_officeAt (tt m9) hS hO hno (hto m9 hm99).2) (zso_13 hS) rfl rfl (Nat.le_of_ble_eq_true rfl) ⟨by decide, by decide⟩ ⟨by decide, by decide⟩ dX8_read_33 ?_
      rintro _ g1 s1 ⟨rfl, h8, h9⟩
      replace h8 := h8.symm
      subst h8
      replace h9 := h9.symm
      subst h9
      refine z_astore X dX8_read_36 (by decide) ?_
      refine z_aload X dX8_read_38 rfl ?_
      refine z_ifnonnull (tgt := 47) X dX8_read_40 (by decide) ?_
      refine z_aload X dX8_read_47 rfl ?_
      refine z_geti X fX8_174 (hF.1) rfl dX8_read_49 ?_
      rw [(hky _ (hto m9 hm99).2).1]
      refine z_istore X dX8_read_52 (by decide) ?_
      have loop_60 : ∀ (n : Nat) (k : Nat) (v1 v2 v3 : Option Value) (τ : zIn) (me : Nat → Int32) (ql : Nat → Nat) (hk : k ≤ g.2.2.2.1 (300 + m9)) (hfo : zfo σ τ) (hpre : ∀ i, i < k → zrd1 σ ne (ky (tt m9)) (σ (400 + m9) i) (me i) (ql i)) (hb : zsum ql k ≤ p9) (hn : g.2.2.2.1 (300 + m9) - k < n), z_V p l e (zRm NX8_read) s m args below meth c 11 D cy z0 0 0 (zQx NX8_read below D cy z0 (fun v g' σ' => zx_read nm (nI m9) (nI p9) = 0 ∧ g' = g ∧ zfo σ σ' ∧ ∃ m2 p2 me ql r, m2 < nm ∧ (nI m9) = nI m2 ∧ (nI p9) = nI p2 ∧ p2 < 2 ^ 31 ∧ v = some (.int r) ∧ zrdA σ ne (ky (tt m2)) m2 (g.2.2.2.1 (300 + m2)) p2 me ql r) (fun E g' σ' => zXk ["java/lang/IndexOutOfBoundsException"] (zx_read nm (nI m9) (nI p9)) E ∧ g' = g ∧ σ' = σ) args s) 60 [some (.ref (g.2.1 1)), some (.int (nI m9)), some (.int (nI p9)), some (.ref (g.2.1 (200 + m9))), some (.ref (g.2.1 (100 + tt m9))), some (.int (nI (ky (tt m9)))), some (.int (nI (zsum ql k))), some (.int (nI k)), v1, v2, v3] [] g τ := by
        intro n
        induction n with
        | zero => intro k v1 v2 v3 τ me ql hk hfo hpre hb hn; exact absurd hn (Nat.not_lt_zero _)
        | succ n ih_60 =>
          intro k v1 v2 v3 τ me ql hk hfo hpre hb hn
          have hfo2 := hfo
          have et : τ (400 + m9) = σ (400 + m9) := hfo.1 _ (by omega) (by omega)
          have e4 : τ 4 = σ 4 := hfo.1 _ (by omega) (by omega)
          have e5 : τ 5 = σ 5 := hfo.1 _ (by omega) (by omega)
          have he3 : τ 2 5 = nI ne := (hfo.2 5 (by decide)).trans he
          have hC3 : ∀ k, k < ne → zwd (τ 4 k) := by rw [e4]; exact hC
          refine z_iload X dX8_read_60 rfl ?_
          refine z_aload_n X dX8_read_62 rfl ?_
          refine z_getr2 X fX8_297 (hM.1) (hM.2.2.2.1) rfl dX8_read_63 ?_
          refine z_alen X (t := 0) (by decide) (hM.2.2.2.2.2.2.1) dX8_read_66 ?_
          refine z_icmp_ge (tgt := 194) X dX8_read_67 (by decide) (fun c_67 => ?_) (fun c_67 => ?_)
          · skip
            try simp (disch := omega) only [zk0, nI_leI, nI_ltI, nI_eq, zbk_notn, zbk_not, zbk_n0, zbk_0, zb_0, zb_n0, zb_not, zb_notn, Bool.not_eq_false, Bool.not_eq_true, Bool.not_eq_true', Bool.not_eq_false', decide_eq_true_eq, decide_eq_false_iff_not, Classical.not_not] at c_67
            refine z_iconst (v := -1) X (by decide) dX8_read_194 ?_
            refine z_rx ?_
            refine z_iret X (by decide) (by decide) rfl dX8_read_195 ?_
            have e : k = g.2.2.2.1 (300 + m9) := by omega
            subst e
            exact ⟨by unfold zx_read; rw [if_neg (fun q9 => q9 ⟨hz, c_11⟩)], rfl, hfo2, m9, p9, me, ql, _, hm99, rfl, rfl, hp9, rfl, Or.inl ⟨hb, rfl, hpre⟩⟩
          · skip
            try simp (disch := omega) only [zk0, nI_leI, nI_ltI, nI_eq, zbk_notn, zbk_not, zbk_n0, zbk_0, zb_0, zb_n0, zb_not, zb_notn, Bool.not_eq_false, Bool.not_eq_true, Bool.not_eq_true', Bool.not_eq_false', decide_eq_true_eq, decide_eq_false_iff_not, Classical.not_not] at c_67
            refine z_aload_n X dX8_read_70 rfl ?_
            refine z_getr2 X fX8_297 (hM.1) (hM.2.2.2.1) rfl dX8_read_71 ?_
            refine z_iload X dX8_read_74 rfl ?_
            refine z_ialdN X (hM.2.2.2.2.2.2.1) (by omega) (by omega) dX8_read_76 ?_
            rw [et]
            refine z_istore X dX8_read_77 (by decide) ?_
            refine z_iload X dX8_read_79 rfl ?_
            refine z_runS X kX8_244 (tX8_isCode _) rfl rfl (Nat.le_of_ble_eq_true rfl) ⟨by decide, by decide⟩ ⟨by decide, by decide⟩ dX8_read_81 ?_
            rintro _ g1 s1 ⟨rfl, h8, h9⟩
            replace h8 := h8.symm
            subst h8
            replace h9 := h9.symm
            subst h9
            refine z_if_eq (tgt := 109) X dX8_read_84 (by decide) (fun c_84 => ?_) (fun c_84 => ?_)
            · skip
              try simp (disch := omega) only [zb_notn, zb_not, zb_n0, zb_0, Bool.not_eq_false, Bool.not_eq_true, Bool.not_eq_true', Bool.not_eq_false', decide_eq_true_eq, decide_eq_false_iff_not, Classical.not_not] at c_84
              refine z_iconst (v := -1) X (by decide) dX8_read_109 ?_
              refine z_istore X dX8_read_110 (by decide) ?_
              refine z_iload X dX8_read_112 rfl ?_
              refine z_iconst (v := -1) X (by decide) dX8_read_114 ?_
              refine z_icmp_ne (tgt := 122) X dX8_read_115 (by decide) (fun c_115 => ?_) (fun c_115 => ?_)
              · first | exact absurd c_115 (by decide) | exact absurd (by decide) c_115
              · skip
                refine z_iconst (v := nI 1) X (by decide) dX8_read_118 ?_
                refine z_goto (tgt := 131) X dX8_read_119 (by decide) ?_
                refine z_istore X dX8_read_131 (by decide) ?_
                have hx9 := zrd_ext (P := fun i a b => zrd1 σ ne (ky (tt m9)) (σ (400 + m9) i) a b) hpre (show zrd1 σ ne (ky (tt m9)) (σ (400 + m9) k) (-1) 1 from (Or.inl ⟨c_84, rfl, rfl⟩))
                refine z_iload_n X dX8_read_133 rfl ?_
                refine z_iload X dX8_read_134 rfl ?_
                refine z_isubN X (by omega) dX8_read_136 ?_
                refine z_iload X dX8_read_137 rfl ?_
                refine z_icmp_ge (tgt := 181) X dX8_read_139 (by decide) (fun c_139 => ?_) (fun c_139 => ?_)
                · skip
                  try simp (disch := omega) only [zk0, nI_leI, nI_ltI, nI_eq, zbk_notn, zbk_not, zbk_n0, zbk_0, zb_0, zb_n0, zb_not, zb_notn, Bool.not_eq_false, Bool.not_eq_true, Bool.not_eq_true', Bool.not_eq_false', decide_eq_true_eq, decide_eq_false_iff_not, Classical.not_not] at c_139
                  refine z_iload X dX8_read_181 rfl ?_
                  refine z_iload X dX8_read_183 rfl ?_
                  refine z_iaddN X dX8_read_185 ?_
                  refine z_istore X dX8_read_186 (by decide) ?_
                  refine z_inc1 X dX8_read_188 rfl (by decide) ?_
                  refine z_goto (tgt := 60) X dX8_read_191 (by decide) ?_
                  have e9 := fun a b c t hh => ih_60 (k + 1) a b c t _ _ (by omega) hh hx9 (by rw [zud_sum1]; omega) (by omega)
                  rw [zud_sum1] at e9
                  exact e9 _ _ _ _ hfo2
                · skip
                  try simp (disch := omega) only [zk0, nI_leI, nI_ltI, nI_eq, zbk_notn, zbk_not, zbk_n0, zbk_0, zb_0, zb_n0, zb_not, zb_notn, Bool.not_eq_false, Bool.not_eq_true, Bool.not_eq_true', Bool.not_eq_false', decide_eq_true_eq, decide_eq_false_iff_not, Classical.not_not] at c_139
                  refine z_iload X dX8_read_142 rfl ?_
                  refine z_runS X kX8_244 (tX8_isCode _) rfl rfl (Nat.le_of_ble_eq_true rfl) ⟨by decide, by decide⟩ ⟨by decide, by decide⟩ dX8_read_144 ?_
                  rintro _ g1 s1 ⟨rfl, h8, h9⟩
                  replace h8 := h8.symm
                  subst h8
                  replace h9 := h9.symm
                  subst h9
                  refine z_if_ne (tgt := 156) X dX8_read_147 (by decide) (fun c_147 => ?_) (fun c_147 => ?_)
                  · skip
                    try simp (disch := omega) only [zb_notn, zb_not, zb_n0, zb_0, Bool.not_eq_false, Bool.not_eq_true, Bool.not_eq_true', Bool.not_eq_false', decide_eq_true_eq, decide_eq_false_iff_not, Classical.not_not] at c_147
                    exfalso; exact c_84 c_147
                  · skip
                    try simp (disch := omega) only [zb_notn, zb_not, zb_n0, zb_0, Bool.not_eq_false, Bool.not_eq_true, Bool.not_eq_true', Bool.not_eq_false', decide_eq_true_eq, decide_eq_false_iff_not, Classical.not_not] at c_147
                    refine z_iload X dX8_read_150 rfl ?_
                    refine z_runS X kX8_310 (tX8_ideaOfPlain _) rfl rfl (Nat.le_of_ble_eq_true rfl) ⟨by decide, by decide⟩ ⟨by decide, by decide⟩ dX8_read_152 ?_
                    rintro _ g1 s1 ⟨rfl, h8, h9⟩
                    replace h8 := h8.symm
                    subst h8
                    replace h9 := h9.symm
                    subst h9
                    refine z_rx ?_
                    refine z_iret X (by decide) (by decide) rfl dX8_read_155 ?_
                    refine ⟨by unfold zx_read; rw [if_neg (fun q9 => q9 ⟨hz, c_11⟩)], rfl, hfo2, m9, p9, zudI me k (-1), zud ql k 1, _, hm99, rfl, rfl, hp9, rfl, Or.inr ⟨k, by omega, hx9, by rw [zud_sum k (Nat.le_refl _)]; exact hb, by rw [zud_sum1]; omega, ?_⟩⟩
                    rw [zud_sum k (Nat.le_refl _), show zudI me k (-1) k = (-1) from if_pos rfl]
                    unfold zrdr
                    rw [if_pos c_84]
            · skip
              try simp (disch := omega) only [zb_notn, zb_not, zb_n0, zb_0, Bool.not_eq_false, Bool.not_eq_true, Bool.not_eq_true', Bool.not_eq_false', decide_eq_true_eq, decide_eq_false_iff_not, Classical.not_not] at c_84
              refine z_aload_n X dX8_read_87 rfl ?_
              refine z_getr2 X fX8_10 (zso_1 hS) (zsr_1_0 hS) rfl dX8_read_88 ?_
              refine z_aload_n X dX8_read_91 rfl ?_
              refine z_getr2 X fX8_10 (zso_1 hS) (zsr_1_0 hS) rfl dX8_read_92 ?_
              refine z_iload X dX8_read_95 rfl ?_
              obtain ⟨W1, hW1, e1⟩ := hnw m9 hm99 k (by omega) c_84
              rw [e1]
              refine z_runV X kX8_300 (tX0_onlyFind W1 hS he3 he2 hC3 hW1) (zso_2 hS) rfl rfl (Nat.le_of_ble_eq_true rfl) ⟨by decide, by decide⟩ ⟨by decide, by decide⟩ dX8_read_97 ?_
              rintro _ _ s6 ⟨r9, rfl, rfl, h6, ho9⟩
              rw [e4] at ho9
              have hfo2 := zfo_t hfo h6
              have he4 : s6 2 5 = nI ne := (hfo2.2 5 (by decide)).trans he
              have e55 : s6 5 = σ 5 := hfo2.1 _ (by omega) (by omega)
              refine z_iload X dX8_read_100 rfl ?_
              refine z_ineg X dX8_read_102 ?_
              have hox := ho9
              rcases hox with ⟨-, k9, hk9, -, rfl⟩ | ⟨-, rfl⟩
              · skip
                have hky9 := (hky (tt m9) (hto m9 hm99).2).2
                have eb := zneg39 (ky (tt m9)) (by omega)
                have hj9 : (((k9 : Int) + (-(nI (ky (tt m9)))).toInt) % ne).toNat < ne := by rw [eb]; have h1 := Int.emod_nonneg ((k9 : Int) + -(ky (tt m9) : Int)) (b := (ne : Int)) (by omega); have h2 := Int.emod_lt_of_pos ((k9 : Int) + -(ky (tt m9) : Int)) (b := (ne : Int)) (by omega); omega
                have hj9e : (((k9 : Int) + (-(nI (ky (tt m9)))).toInt) % ne).toNat = (((k9 : Int) - (ky (tt m9) : Int)) % ne).toNat := by rw [eb]; rfl
                refine z_runV X kX8_303 (tX0_shifted k9 _ hS he4 he2 hk9 (by rw [eb]; omega) (by rw [eb]; omega)) (zso_2 hS) rfl rfl (Nat.le_of_ble_eq_true rfl) ⟨by decide, by decide⟩ ⟨by decide, by decide⟩ dX8_read_103 ?_
                rintro _ g1 s1 ⟨rfl, h8, h9⟩
                replace h8 := h8.symm
                subst h8
                replace h9 := h9.symm
                subst h9
                generalize (((k9 : Int) + (-(nI (ky (tt m9)))).toInt) % ne).toNat = j9 at hj9 hj9e ⊢
                refine z_goto (tgt := 110) X dX8_read_106 (by decide) ?_
                refine z_istore X dX8_read_110 (by decide) ?_
                refine z_iload X dX8_read_112 rfl ?_
                refine z_iconst (v := -1) X (by decide) dX8_read_114 ?_
                refine z_icmp_ne (tgt := 122) X dX8_read_115 (by decide) (fun c_115 => ?_) (fun c_115 => ?_)
                · skip
                  refine z_aload_n X dX8_read_122 rfl ?_
                  refine z_getr2 X fX8_10 (zso_1 hS) (zsr_1_0 hS) rfl dX8_read_123 ?_
                  refine z_iload X dX8_read_126 rfl ?_
                  refine z_runV X kX8_307 (tX0_phraseLength j9 hS he4 he2 hj9) (zso_2 hS) rfl rfl (Nat.le_of_ble_eq_true rfl) ⟨by decide, by decide⟩ ⟨by decide, by decide⟩ dX8_read_128 ?_
                  rintro _ g1 s1 ⟨q9, rfl, h8, h9, hpl⟩
                  replace h8 := h8.symm
                  subst h8
                  replace h9 := h9.symm
                  subst h9
                  rw [e55] at hpl
                  have hq4 := hpl.1
                  refine z_istore X dX8_read_131 (by decide) ?_
                  have hx9 := zrd_ext (P := fun i a b => zrd1 σ ne (ky (tt m9)) (σ (400 + m9) i) a b) hpre (show zrd1 σ ne (ky (tt m9)) (σ (400 + m9) k) (nI j9) q9 from (Or.inr ⟨c_84, nI k9, by rw [e1]; exact ho9, Or.inr ⟨k9, j9, hk9, rfl, hj9, hj9e, rfl, hpl⟩⟩))
                  refine z_iload_n X dX8_read_133 rfl ?_
                  refine z_iload X dX8_read_134 rfl ?_
                  refine z_isubN X (by omega) dX8_read_136 ?_
                  refine z_iload X dX8_read_137 rfl ?_
                  refine z_icmp_ge (tgt := 181) X dX8_read_139 (by decide) (fun c_139 => ?_) (fun c_139 => ?_)
                  · skip
                    try simp (disch := omega) only [zk0, nI_leI, nI_ltI, nI_eq, zbk_notn, zbk_not, zbk_n0, zbk_0, zb_0, zb_n0, zb_not, zb_notn, Bool.not_eq_false, Bool.not_eq_true, Bool.not_eq_true', Bool.not_eq_false', decide_eq_true_eq, decide_eq_false_iff_not, Classical.not_not] at c_139
                    refine z_iload X dX8_read_181 rfl ?_
                    refine z_iload X dX8_read_183 rfl ?_
                    refine z_iaddN X dX8_read_185 ?_
                    refine z_istore X dX8_read_186 (by decide) ?_
                    refine z_inc1 X dX8_read_188 rfl (by decide) ?_
                    refine z_goto (tgt := 60) X dX8_read_191 (by decide) ?_
                    have e9 := fun a b c t hh => ih_60 (k + 1) a b c t _ _ (by omega) hh hx9 (by rw [zud_sum1]; omega) (by omega)
                    rw [zud_sum1] at e9
                    exact e9 _ _ _ _ hfo2
                  · skip
                    try simp (disch := omega) only [zk0, nI_leI, nI_ltI, nI_eq, zbk_notn, zbk_not, zbk_n0, zbk_0, zb_0, zb_n0, zb_not, zb_notn, Bool.not_eq_false, Bool.not_eq_true, Bool.not_eq_true', Bool.not_eq_false', decide_eq_true_eq, decide_eq_false_iff_not, Classical.not_not] at c_139
                    refine z_iload X dX8_read_142 rfl ?_
                    refine z_runS X kX8_244 (tX8_isCode _) rfl rfl (Nat.le_of_ble_eq_true rfl) ⟨by decide, by decide⟩ ⟨by decide, by decide⟩ dX8_read_144 ?_
                    rintro _ g1 s1 ⟨rfl, h8, h9⟩
                    replace h8 := h8.symm
                    subst h8
                    replace h9 := h9.symm
                    subst h9
                    refine z_if_ne (tgt := 156) X dX8_read_147 (by decide) (fun c_147 => ?_) (fun c_147 => ?_)
                    · skip
                      try simp (disch := omega) only [zb_notn, zb_not, zb_n0, zb_0, Bool.not_eq_false, Bool.not_eq_true, Bool.not_eq_true', Bool.not_eq_false', decide_eq_true_eq, decide_eq_false_iff_not, Classical.not_not] at c_147
                      refine z_iload X dX8_read_156 rfl ?_
                      refine z_iconst (v := -1) X (by decide) dX8_read_158 ?_
                      refine z_icmp_ne (tgt := 167) X dX8_read_159 (by decide) (fun c_159 => ?_) (fun c_159 => ?_)
                      · skip
                        refine z_aload_n X dX8_read_167 rfl ?_
                        refine z_getr2 X fX8_10 (zso_1 hS) (zsr_1_0 hS) rfl dX8_read_168 ?_
                        refine z_iload X dX8_read_171 rfl ?_
                        refine z_iload_n X dX8_read_173 rfl ?_
                        refine z_iload X dX8_read_174 rfl ?_
                        refine z_isubN X (by omega) dX8_read_176 ?_
                        refine z_runV X kX8_313 (tX0_ideaIn j9 (p9 - zsum ql k) hS he4 he2 hj9 (by omega)) (zso_2 hS) rfl rfl (Nat.le_of_ble_eq_true rfl) ⟨by decide, by decide⟩ ⟨by decide, by decide⟩ dX8_read_177 ?_
                        rintro _ g1 s1 ⟨rfl, h8, h9⟩
                        replace h8 := h8.symm
                        subst h8
                        replace h9 := h9.symm
                        subst h9
                        refine z_rx ?_
                        refine z_iret X (by decide) (by decide) rfl dX8_read_180 ?_
                        refine ⟨by unfold zx_read; rw [if_neg (fun q9 => q9 ⟨hz, c_11⟩)], rfl, hfo2, m9, p9, zudI me k (nI j9), zud ql k q9, _, hm99, rfl, rfl, hp9, rfl, Or.inr ⟨k, by omega, hx9, by rw [zud_sum k (Nat.le_refl _)]; exact hb, by rw [zud_sum1]; omega, ?_⟩⟩
                        rw [zud_sum k (Nat.le_refl _), show zudI me k (nI j9) k = (nI j9) from if_pos rfl]
                        unfold zrdr
                        rw [if_pos (show p9 - zsum ql k < 4 by omega), e55, if_neg (fun q9 => q9 c_84), if_neg (nI_ne_m1 (by omega)), zn_nI (by omega)]
                      · exact absurd c_159 (nI_ne_m1 (by omega))
                    · skip
                      try simp (disch := omega) only [zb_notn, zb_not, zb_n0, zb_0, Bool.not_eq_false, Bool.not_eq_true, Bool.not_eq_true', Bool.not_eq_false', decide_eq_true_eq, decide_eq_false_iff_not, Classical.not_not] at c_147
                      exfalso; exact c_147 (by rw [← e1]; exact c_84)
                · exact absurd c_115 (nI_ne_m1 (by omega))
              · skip
                skip
                refine z_runV X kX8_303 (tX0_shiftedN _ hS he4 he2) (zso_2 hS) rfl rfl (Nat.le_of_ble_eq_true rfl) ⟨by decide, by decide⟩ ⟨by decide, by decide⟩ dX8_read_103 ?_
                rintro _ g1 s1 ⟨rfl, h8, h9⟩
                replace h8 := h8.symm
                subst h8
                replace h9 := h9.symm
                subst h9
                refine z_goto (tgt := 110) X dX8_read_106 (by decide) ?_
                refine z_istore X dX8_read_110 (by decide) ?_
                refine z_iload X dX8_read_112 rfl ?_
                refine z_iconst (v := -1) X (by decide) dX8_read_114 ?_
                refine z_icmp_ne (tgt := 122) X dX8_read_115 (by decide) (fun c_115 => ?_) (fun c_115 => ?_)
                · exact absurd rfl c_115
                · skip
                  refine z_iconst (v := nI 1) X (by decide) dX8_read_118 ?_
                  refine z_goto (tgt := 131) X dX8_read_119 (by decide) ?_
                  refine z_istore X dX8_read_131 (by decide) ?_
                  have hx9 := zrd_ext (P := fun i a b => zrd1 σ ne (ky (tt m9)) (σ (400 + m9) i) a b) hpre (show zrd1 σ ne (ky (tt m9)) (σ (400 + m9) k) (-1) 1 from (Or.inr ⟨c_84, -1, by rw [e1]; exact ho9, Or.inl ⟨rfl, rfl, rfl⟩⟩))
                  refine z_iload_n X dX8_read_133 rfl ?_
                  refine z_iload X dX8_read_134 rfl ?_
                  refine z_isubN X (by omega) dX8_read_136 ?_
                  refine z_iload X dX8_read_137 rfl ?_
                  refine z_icmp_ge (tgt := 181) X dX8_read_139 (by decide) (fun c_139 => ?_) (fun c_139 => ?_)
                  · skip
                    try simp (disch := omega) only [zk0, nI_leI, nI_ltI, nI_eq, zbk_notn, zbk_not, zbk_n0, zbk_0, zb_0, zb_n0, zb_not, zb_notn, Bool.not_eq_false, Bool.not_eq_true, Bool.not_eq_true', Bool.not_eq_false', decide_eq_true_eq, decide_eq_false_iff_not, Classical.not_not] at c_139
                    refine z_iload X dX8_read_181 rfl ?_
                    refine z_iload X dX8_read_183 rfl ?_
                    refine z_iaddN X dX8_read_185 ?_
                    refine z_istore X dX8_read_186 (by decide) ?_
                    refine z_inc1 X dX8_read_188 rfl (by decide) ?_
                    refine z_goto (tgt := 60) X dX8_read_191 (by decide) ?_
                    have e9 := fun a b c t hh => ih_60 (k + 1) a b c t _ _ (by omega) hh hx9 (by rw [zud_sum1]; omega) (by omega)
                    rw [zud_sum1] at e9
                    exact e9 _ _ _ _ hfo2
                  · skip
                    try simp (disch := omega) only [zk0, nI_leI, nI_ltI, nI_eq, zbk_notn, zbk_not, zbk_n0, zbk_0, zb_0, zb_n0, zb_not, zb_notn, Bool.not_eq_false, Bool.not_eq_true, Bool.not_eq_true', Bool.not_eq_false', decide_eq_true_eq, decide_eq_false_iff_not, Classical.not_not] at c_139
                    refine z_iload X dX8_read_142 rfl ?_
                    refine z_runS X kX8_244 (tX8_isCode _) rfl rfl (Nat.le_of_ble_eq_true rfl) ⟨by decide, by decide⟩ ⟨by decide, by decide⟩ dX8_read_144 ?_
                    rintro _ g1 s1 ⟨rfl, h8, h9⟩
                    replace h8 := h8.symm
                    subst h8
                    replace h9 := h9.symm
                    subst h9
                    refine z_if_ne (tgt := 156) X dX8_read_147 (by decide) (fun c_147 => ?_) (fun c_147 => ?_)
                    · skip
                      try simp (disch := omega) only [zb_notn, zb_not, zb_n0, zb_0, Bool.not_eq_false, Bool.not_eq_true, Bool.not_eq_true', Bool.not_eq_false', decide_eq_true_eq, decide_eq_false_iff_not, Classical.not_not] at c_147
                      refine z_iload X dX8_read_156 rfl ?_
                      refine z_iconst (v := -1) X (by decide) dX8_read_158 ?_
                      refine z_icmp_ne (tgt := 167) X dX8_read_159 (by decide) (fun c_159 => ?_) (fun c_159 => ?_)
                      · exact absurd rfl c_159
                      · skip
                        refine z_bipush (v := -2) X (by decide) dX8_read_162 ?_
                        refine z_goto (tgt := 180) X dX8_read_164 (by decide) ?_
                        refine z_rx ?_
                        refine z_iret X (by decide) (by decide) rfl dX8_read_180 ?_
                        refine ⟨by unfold zx_read; rw [if_neg (fun q9 => q9 ⟨hz, c_11⟩)], rfl, hfo2, m9, p9, zudI me k (-1), zud ql k 1, _, hm99, rfl, rfl, hp9, rfl, Or.inr ⟨k, by omega, hx9, by rw [zud_sum k (Nat.le_refl _)]; exact hb, by rw [zud_sum1]; omega, ?_⟩⟩
                        rw [zud_sum k (Nat.le_refl _), show zudI me k (-1) k = (-1) from if_pos rfl]
                        unfold zrdr
                        rw [if_neg (fun q9 => q9 c_84), if_pos rfl]
                    · skip
                      try simp (disch := omega) only [zb_notn, zb_not, zb_n0, zb_0, Bool.not_eq_false, Bool.not_eq_true, Bool.not_eq_true', Bool.not_eq_false', decide_eq_true_eq, decide_eq_false_iff_not, Classical.not_not] at c_147
                      exfalso; exact c_147 (by rw [← e1]; exact c_84)
      refine z_iconst (v := nI 0) X (by decide) dX8_read_54 ?_
      refine z_istore X dX8_read_55 (by decide) ?_
      refine z_iconst (v := nI 0) X (by decide) dX8_read_57 ?_
      refine z_istore X dX8_read_58 (by decide) ?_
      exact loop_60 (g.2.2.2.1 (300 + m9) - 0 + 1) 0 _ _ _ σ (fun _ => 0) (fun _ => 0) (Nat.zero_le _) ⟨fun _ _ _ => rfl, fun _ _ => rfl⟩ (fun i hi => absurd hi (Nat.not_lt_zero _)) (Nat.zero_le _) (by omega)
    · skip
      refine z_throwW X Y (cls := "java/lang/IndexOutOfBoundsException") (text := "no such message, or place is below 0") (names := zENs) (by decide +kernel) (by decide +kernel) (z_gd 248 (by decide +kernel) (by decide +kernel)) (z_gd 40 (by decide +kernel) (by decide +kernel)) (List.mem_of_getElem? (i := 346) (by decide +kernel)) zat_IndexOutOfBoundsException dX8_read_14 dX8_read_17 dX8_read_18 dX8_read_21 dX8_read_24 (by decide) (by decide) (Nat.le_of_ble_eq_true rfl) (Nat.le_of_ble_eq_true rfl) (Nat.le_of_ble_eq_true rfl) (Nat.le_of_ble_eq_true rfl) ?_
      exact ⟨⟨0, by unfold zx_read; simp_all, rfl⟩, rfl, rfl⟩
