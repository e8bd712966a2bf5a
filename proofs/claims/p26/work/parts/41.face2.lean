/-! contracts of the class's face: accounts, messages, asking -/
section
variable {p : Program} {l : Launch} {e : Env} {R : Room} {s : State} {m : MethodId} {args : Array Value} {below : List Frame} {meth : Method} {c : Code} {cells slots : Nat} {Q : State → Prop} {own nm : String} {cc : ByteArray} {nL : Nat} {ret : Option FieldType} {D : va_G} {cy : Nat → ClassId} {z0 : zRg} {pc : Nat} {L : List (Option Value)} {st : List Value} {g : zSh} {σ : zIn}
theorem z_tabIn (X : z_cx p s m args meth c own cc nL ret nm D cy z0) {dflt lo hi : Int} {offs : Array Int} {len : Nat} {x : Int32} {off : Int} {tgt : Nat} (d : decode cc pc = .ok (.tableswitch dflt lo hi offs, len)) (h1 : ¬ x.toInt < lo) (h2 : ¬ hi < x.toInt) (ho : offs[(x.toInt - lo).toNat]? = some off) (ht : (pc : Int) + off = (tgt : Int)) (kk : z_V p l e R s m args below meth c nL D cy z0 cells slots Q tgt L st g σ) : z_V p l e R s m args below meth c nL D cy z0 cells slots Q pc L (.int x :: st) g σ := by
  intro H locs ls hP hD hS hL
  obtain ⟨hx, hb, hml, hown, hts, hN, hK, hz, hr, hnm, hlk⟩ := X
  exact lv_tableIn hx hb d h1 h2 ho ht (kk H locs ls hP hD hS hL)
theorem z_tabOut (X : z_cx p s m args meth c own cc nL ret nm D cy z0) {dflt lo hi : Int} {offs : Array Int} {len : Nat} {x : Int32} {tgt : Nat} (d : decode cc pc = .ok (.tableswitch dflt lo hi offs, len)) (h : x.toInt < lo ∨ hi < x.toInt) (ht : (pc : Int) + dflt = (tgt : Int)) (kk : z_V p l e R s m args below meth c nL D cy z0 cells slots Q tgt L st g σ) : z_V p l e R s m args below meth c nL D cy z0 cells slots Q pc L (.int x :: st) g σ := by
  intro H locs ls hP hD hS hL
  obtain ⟨hx, hb, hml, hown, hts, hN, hK, hz, hr, hnm, hlk⟩ := X
  exact lv_tableOut hx hb d h ht (kk H locs ls hP hD hS hL)
end
theorem zsw (n : Nat) (x : Int32) : (∃ j, j < n ∧ x = nI j) ∨ (x.toInt < 0 ∨ ((n : Int) - 1) < x.toInt) := by
  by_cases h : x < 0
  · rw [Int32.lt_iff_toInt_lt] at h
    exact Or.inr (Or.inl h)
  obtain ⟨j, hj, rfl⟩ := nI_of h
  by_cases h2 : j < n
  · exact Or.inl ⟨j, h2, rfl⟩
  · rw [nI_toInt hj]
    exact Or.inr (Or.inr (by omega))
def zn (x : Int32) : Nat := x.toNatClampNeg
theorem zn_nI {k : Nat} (h : k < 2 ^ 31) : zn (nI k) = k := nI_clamp h
def zxm (nm : Nat) (x : Int32) : Nat := if zin x nm = true then 0 else 1
def zx_of (nm : Nat) (x y : Int32) : Nat := if ¬ zin x nm = true then 1 else if y.toInt < 0 ∨ 5 < y.toInt then 2 else 0
def zof (g : zSh) (σ : zIn) (m : Nat) : Nat → Int32
  | 0 => σ (200 + m) 9
  | 1 => nI (g.2.2.2.1 (300 + m))
  | 2 => σ (200 + m) 3
  | 3 => σ (200 + m) 4
  | 4 => zcab σ m
  | _ => if σ (200 + m) 9 = 2 then σ (200 + m) 10 else -1
def zx_word (g : zSh) (nm : Nat) (x y : Int32) : Nat := if zin x nm = true ∧ zin y (g.2.2.2.1 (300 + zn x)) = true then 0 else 1
abbrev NX8_account : zM := (yX8_account, cX8_account, 3, (some .int), 6, 1, 6, 140)
set_option maxHeartbeats 4000000 in
set_option maxRecDepth 100000 in
theorem tX8_account {l : Launch} {D : va_G} {cy : Nat → ClassId} {z0 : zRg} {g : zSh} {σ : zIn} (hfl : l.stackTraces = false) {no : Nat} (x : Int32) (hS : zS g) (hO : zO g no) (hno : σ 13 4 = nI no) : z_Cx l D cy z0 NX8_account [.ref (g.2.1 1), .int x] g σ (fun v g' σ' => zx_in no x = 0 ∧ g' = g ∧ σ' = σ ∧ ∃ o, o < no ∧ x = nI o ∧ v = some (.int (σ (100 + o) 3))) (fun E g' σ' => zXk ["java/lang/IndexOutOfBoundsException"] (zx_in no x) E ∧ g' = g ∧ σ' = σ) := by
  have hn8 := hO.1
  refine z_ofX hfl (by decide) (z_cr (z_ci z_c0)) (Nat.le_of_ble_eq_true rfl) ?_
  intro p e s m args below meth c X Y
  refine z_aload_n X dX8_account_0 rfl ?_
  refine z_getr2 X fX8_35 (zso_1 hS) (zsr_1_3 hS) rfl dX8_account_1 ?_
  refine z_iload_n X dX8_account_4 rfl ?_
  cases hz : zin x no
  · skip
    skip
    refine z_runV X kX8_138 (tX4_officeAtN x hS hO hno hz) (zso_13 hS) rfl rfl (Nat.le_of_ble_eq_true rfl) ⟨by decide, by decide⟩ ⟨by decide, by decide⟩ dX8_account_5 ?_
    rintro _ g1 s1 ⟨rfl, h8, h9⟩
    replace h8 := h8.symm
    subst h8
    replace h9 := h9.symm
    subst h9
    refine z_astore_nN X dX8_account_8 (by decide) ?_
    refine z_aload_nN X dX8_account_9 rfl ?_
    refine z_ifnonnullN X dX8_account_10 ?_
    refine z_throw X Y (cls := "java/lang/IndexOutOfBoundsException") (text := "no such office") (names := zENs) (by decide +kernel) (by decide +kernel) (z_gd 248 (by decide +kernel) (by decide +kernel)) (z_gd 40 (by decide +kernel) (by decide +kernel)) (List.mem_of_getElem? (i := 410) (by decide +kernel)) zat_IndexOutOfBoundsException dX8_account_13 dX8_account_16 dX8_account_17 dX8_account_19 dX8_account_22 (by decide) (by decide) (Nat.le_of_ble_eq_true rfl) (Nat.le_of_ble_eq_true rfl) (Nat.le_of_ble_eq_true rfl) (Nat.le_of_ble_eq_true rfl) ?_
    exact ⟨⟨0, by unfold zx_in; simp_all, rfl⟩, rfl, rfl⟩
  · skip
    obtain ⟨o, ho9, rfl⟩ := zin_t hz (by have := hO.1; omega)
    have hF := hO.2.1 o ho9
    refine z_runV X kX8_138 (tX4_officeAt o hS hO hno ho9) (zso_13 hS) rfl rfl (Nat.le_of_ble_eq_true rfl) ⟨by decide, by decide⟩ ⟨by decide, by decide⟩ dX8_account_5 ?_
    rintro _ g1 s1 ⟨rfl, h8, h9⟩
    replace h8 := h8.symm
    subst h8
    replace h9 := h9.symm
    subst h9
    refine z_astore_n X dX8_account_8 (by decide) ?_
    refine z_aload_n X dX8_account_9 rfl ?_
    refine z_ifnonnull (tgt := 23) X dX8_account_10 (by decide) ?_
    refine z_aload_n X dX8_account_23 rfl ?_
    refine z_geti X fX8_319 (hF.1) rfl dX8_account_24 ?_
    refine z_rx ?_
    refine z_iret X (by decide) (by decide) rfl dX8_account_27 ?_
    exact ⟨by unfold zx_in; rw [if_pos hz], rfl, rfl, o, ho9, rfl, rfl⟩

abbrev NX8_ofMessage : zM := (yX8_ofMessage, cX8_ofMessage, 4, (some .int), 6, 1, 6, 140)
set_option maxHeartbeats 4000000 in
set_option maxRecDepth 100000 in
theorem tX8_ofMessage {l : Launch} {D : va_G} {cy : Nat → ClassId} {z0 : zRg} {g : zSh} {σ : zIn} (hfl : l.stackTraces = false) {nm : Nat} (x y : Int32) (hS : zS g) (hG : zG g nm) (hnm : σ 1 8 = nI nm) (hLg : zLg g σ nm) (hL : ∀ m, m < nm → g.2.2.2.1 (300 + m) ≤ 24) : z_Cx l D cy z0 NX8_ofMessage [.ref (g.2.1 1), .int x, .int y] g σ (fun v g' σ' => zx_of nm x y = 0 ∧ g' = g ∧ σ' = σ ∧ ∃ m9 j, m9 < nm ∧ x = nI m9 ∧ j < 6 ∧ y = nI j ∧ v = some (.int (zof g σ m9 j))) (fun E g' σ' => zXk ["java/lang/IndexOutOfBoundsException", "java/lang/IllegalArgumentException"] (zx_of nm x y) E ∧ g' = g ∧ σ' = σ) := by
  have hn60 := hG.1
  refine z_ofX hfl (by decide) (z_cr (z_ci (z_ci z_c0))) (Nat.le_of_ble_eq_true rfl) ?_
  intro p e s m args below meth c X Y
  refine z_aload_n X dX8_ofMessage_0 rfl ?_
  refine z_iload_n X dX8_ofMessage_1 rfl ?_
  cases hz : zin x nm
  · skip
    skip
    refine z_runV X kX8_227 (tX8_messageAtN x hS hG hnm hz) (zso_1 hS) rfl rfl (Nat.le_of_ble_eq_true rfl) ⟨by decide, by decide⟩ ⟨by decide, by decide⟩ dX8_ofMessage_2 ?_
    rintro _ g1 s1 ⟨rfl, h8, h9⟩
    replace h8 := h8.symm
    subst h8
    replace h9 := h9.symm
    subst h9
    refine z_astore_nN X dX8_ofMessage_5 (by decide) ?_
    refine z_aload_nN X dX8_ofMessage_6 rfl ?_
    refine z_ifnonnullN X dX8_ofMessage_7 ?_
    refine z_throwW X Y (cls := "java/lang/IndexOutOfBoundsException") (text := "no such message") (names := zENs) (by decide +kernel) (by decide +kernel) (z_gd 248 (by decide +kernel) (by decide +kernel)) (z_gd 40 (by decide +kernel) (by decide +kernel)) (List.mem_of_getElem? (i := 261) (by decide +kernel)) zat_IndexOutOfBoundsException dX8_ofMessage_10 dX8_ofMessage_13 dX8_ofMessage_14 dX8_ofMessage_17 dX8_ofMessage_20 (by decide) (by decide) (Nat.le_of_ble_eq_true rfl) (Nat.le_of_ble_eq_true rfl) (Nat.le_of_ble_eq_true rfl) (Nat.le_of_ble_eq_true rfl) ?_
    exact ⟨⟨0, by unfold zx_of; simp_all, rfl⟩, rfl, rfl⟩
  · skip
    obtain ⟨m9, hm99, rfl⟩ := zin_t hz (by have := hG.1; omega)
    have hM := hG.2.1 m9 hm99
    refine z_runV X kX8_227 (tX8_messageAt m9 hS hG hnm hm99) (zso_1 hS) rfl rfl (Nat.le_of_ble_eq_true rfl) ⟨by decide, by decide⟩ ⟨by decide, by decide⟩ dX8_ofMessage_2 ?_
    rintro _ g1 s1 ⟨rfl, h8, h9⟩
    replace h8 := h8.symm
    subst h8
    replace h9 := h9.symm
    subst h9
    refine z_astore_n X dX8_ofMessage_5 (by decide) ?_
    refine z_aload_n X dX8_ofMessage_6 rfl ?_
    refine z_ifnonnull (tgt := 21) X dX8_ofMessage_7 (by decide) ?_
    refine z_iload_n X dX8_ofMessage_21 rfl ?_
    rcases zsw 6 y with ⟨j22, hj22, e22⟩ | hj22
    · have hq22 : j22 = 0 ∨ j22 = 1 ∨ j22 = 2 ∨ j22 = 3 ∨ j22 = 4 ∨ j22 = 5 := by omega
      rcases hq22 with rfl | rfl | rfl | rfl | rfl | rfl
      · skip
        subst e22
        refine z_tabIn X (off := 38) (tgt := 60) dX8_ofMessage_22 (by decide) (by decide) (by decide) (by decide) ?_
        refine z_aload_n X dX8_ofMessage_60 rfl ?_
        refine z_geti X fX8_238 (hM.1) rfl dX8_ofMessage_61 ?_
        refine z_rx ?_
        refine z_iret X (by decide) (by decide) rfl dX8_ofMessage_64 ?_
        exact ⟨by unfold zx_of; rw [if_neg (by simp_all), if_neg (by decide)], rfl, rfl, m9, 0, hm99, rfl, by decide, rfl, rfl⟩
      · skip
        subst e22
        refine z_tabIn X (off := 43) (tgt := 65) dX8_ofMessage_22 (by decide) (by decide) (by decide) (by decide) ?_
        refine z_aload_n X dX8_ofMessage_65 rfl ?_
        refine z_getr2 X fX8_273 (hM.1) (hM.2.2.1) rfl dX8_ofMessage_66 ?_
        refine z_alen X (t := 0) (by decide) (hM.2.2.2.2.2.1) dX8_ofMessage_69 ?_
        refine z_rx ?_
        refine z_iret X (by decide) (by decide) rfl dX8_ofMessage_70 ?_
        exact ⟨by unfold zx_of; rw [if_neg (by simp_all), if_neg (by decide)], rfl, rfl, m9, 1, hm99, rfl, by decide, rfl, rfl⟩
      · skip
        subst e22
        refine z_tabIn X (off := 49) (tgt := 71) dX8_ofMessage_22 (by decide) (by decide) (by decide) (by decide) ?_
        refine z_aload_n X dX8_ofMessage_71 rfl ?_
        refine z_geti X fX8_277 (hM.1) rfl dX8_ofMessage_72 ?_
        refine z_rx ?_
        refine z_iret X (by decide) (by decide) rfl dX8_ofMessage_75 ?_
        exact ⟨by unfold zx_of; rw [if_neg (by simp_all), if_neg (by decide)], rfl, rfl, m9, 2, hm99, rfl, by decide, rfl, rfl⟩
      · skip
        subst e22
        refine z_tabIn X (off := 54) (tgt := 76) dX8_ofMessage_22 (by decide) (by decide) (by decide) (by decide) ?_
        refine z_aload_n X dX8_ofMessage_76 rfl ?_
        refine z_geti X fX8_278 (hM.1) rfl dX8_ofMessage_77 ?_
        refine z_rx ?_
        refine z_iret X (by decide) (by decide) rfl dX8_ofMessage_80 ?_
        exact ⟨by unfold zx_of; rw [if_neg (by simp_all), if_neg (by decide)], rfl, rfl, m9, 3, hm99, rfl, by decide, rfl, rfl⟩
      · skip
        subst e22
        refine z_tabIn X (off := 59) (tgt := 81) dX8_ofMessage_22 (by decide) (by decide) (by decide) (by decide) ?_
        refine z_aload_n X dX8_ofMessage_81 rfl ?_
        refine z_runV X kX8_281 (tX3_cableNow hG hm99 (hLg m9 hm99).1 (hLg m9 hm99).2) (hM.1) rfl rfl (Nat.le_of_ble_eq_true rfl) ⟨by decide, by decide⟩ ⟨by decide, by decide⟩ dX8_ofMessage_82 ?_
        rintro _ g1 s1 ⟨rfl, h8, h9⟩
        replace h8 := h8.symm
        subst h8
        replace h9 := h9.symm
        subst h9
        refine z_rx ?_
        refine z_iret X (by decide) (by decide) rfl dX8_ofMessage_85 ?_
        exact ⟨by unfold zx_of; rw [if_neg (by simp_all), if_neg (by decide)], rfl, rfl, m9, 4, hm99, rfl, by decide, rfl, rfl⟩
      · skip
        subst e22
        refine z_tabIn X (off := 64) (tgt := 86) dX8_ofMessage_22 (by decide) (by decide) (by decide) (by decide) ?_
        refine z_aload_n X dX8_ofMessage_86 rfl ?_
        refine z_geti X fX8_238 (hM.1) rfl dX8_ofMessage_87 ?_
        refine z_iconst (v := 2) X (by decide) dX8_ofMessage_90 ?_
        refine z_icmp_ne (tgt := 101) X dX8_ofMessage_91 (by decide) (fun c_91 => ?_) (fun c_91 => ?_)
        · skip
          try simp (disch := omega) only [zb_notn, zb_not, zb_n0, zb_0, Bool.not_eq_false, Bool.not_eq_true, Bool.not_eq_true', Bool.not_eq_false', decide_eq_true_eq, decide_eq_false_iff_not, Classical.not_not] at c_91
          refine z_iconst (v := -1) X (by decide) dX8_ofMessage_101 ?_
          refine z_rx ?_
          refine z_iret X (by decide) (by decide) rfl dX8_ofMessage_102 ?_
          exact ⟨by unfold zx_of; rw [if_neg (by simp_all), if_neg (by decide)], rfl, rfl, m9, 5, hm99, rfl, by decide, rfl, by show _ = some (Value.int (if σ (200 + m9) 9 = 2 then _ else _)); first | rw [if_pos c_91] | rw [if_neg c_91]⟩
        · skip
          try simp (disch := omega) only [zb_notn, zb_not, zb_n0, zb_0, Bool.not_eq_false, Bool.not_eq_true, Bool.not_eq_true', Bool.not_eq_false', decide_eq_true_eq, decide_eq_false_iff_not, Classical.not_not] at c_91
          refine z_aload_n X dX8_ofMessage_94 rfl ?_
          refine z_geti X fX8_284 (hM.1) rfl dX8_ofMessage_95 ?_
          refine z_goto (tgt := 102) X dX8_ofMessage_98 (by decide) ?_
          refine z_rx ?_
          refine z_iret X (by decide) (by decide) rfl dX8_ofMessage_102 ?_
          exact ⟨by unfold zx_of; rw [if_neg (by simp_all), if_neg (by decide)], rfl, rfl, m9, 5, hm99, rfl, by decide, rfl, by show _ = some (Value.int (if σ (200 + m9) 9 = 2 then _ else _)); first | rw [if_pos c_91] | rw [if_neg c_91]⟩
    · skip
      refine z_tabOut X (tgt := 103) dX8_ofMessage_22 hj22 (by decide) ?_
      refine z_throwW X Y (cls := "java/lang/IllegalArgumentException") (text := "what is out of range") (names := zENs) (by decide +kernel) (by decide +kernel) (z_gd 321 (by decide +kernel) (by decide +kernel)) (z_gd 38 (by decide +kernel) (by decide +kernel)) (List.mem_of_getElem? (i := 302) (by decide +kernel)) zat_IllegalArgumentException dX8_ofMessage_103 dX8_ofMessage_106 dX8_ofMessage_107 dX8_ofMessage_110 dX8_ofMessage_113 (by decide) (by decide) (Nat.le_of_ble_eq_true rfl) (Nat.le_of_ble_eq_true rfl) (Nat.le_of_ble_eq_true rfl) (Nat.le_of_ble_eq_true rfl) ?_
      exact ⟨⟨1, by unfold zx_of; simp_all, rfl⟩, rfl, rfl⟩

abbrev NX8_word : zM := (yX8_word, cX8_word, 5, (some .int), 6, 1, 6, 140)
set_option maxHeartbeats 4000000 in
set_option maxRecDepth 100000 in
theorem tX8_word {l : Launch} {D : va_G} {cy : Nat → ClassId} {z0 : zRg} {g : zSh} {σ : zIn} (hfl : l.stackTraces = false) {nm : Nat} (b : Bool) (x y : Int32) (hS : zS g) (hG : zG g nm) (hnm : σ 1 8 = nI nm) (hL : ∀ m, m < nm → g.2.2.2.1 (300 + m) ≤ 24) : z_Cx l D cy z0 NX8_word [.ref (g.2.1 1), .int x, .int y, .int (zb b)] g σ (fun v g' σ' => zx_word g nm x y = 0 ∧ g' = g ∧ σ' = σ ∧ ∃ m9 k, m9 < nm ∧ x = nI m9 ∧ k < g.2.2.2.1 (300 + m9) ∧ y = nI k ∧ v = some (.int (if b then σ (300 + m9) k else σ (400 + m9) k))) (fun E g' σ' => zXk ["java/lang/IndexOutOfBoundsException"] (zx_word g nm x y) E ∧ g' = g ∧ σ' = σ) := by
  have hn60 := hG.1
  refine z_ofX hfl (by decide) (z_cr (z_ci (z_ci (z_ci z_c0)))) (Nat.le_of_ble_eq_true rfl) ?_
  intro p e s m args below meth c X Y
  refine z_aload_n X dX8_word_0 rfl ?_
  refine z_iload_n X dX8_word_1 rfl ?_
  cases hz : zin x nm
  · skip
    skip
    refine z_runV X kX8_227 (tX8_messageAtN x hS hG hnm hz) (zso_1 hS) rfl rfl (Nat.le_of_ble_eq_true rfl) ⟨by decide, by decide⟩ ⟨by decide, by decide⟩ dX8_word_2 ?_
    rintro _ g1 s1 ⟨rfl, h8, h9⟩
    replace h8 := h8.symm
    subst h8
    replace h9 := h9.symm
    subst h9
    refine z_astoreN X dX8_word_5 (by decide) ?_
    refine z_aloadN X dX8_word_7 rfl ?_
    refine z_ifnullN (tgt := 21) X dX8_word_9 (by decide) ?_
    refine z_throw X Y (cls := "java/lang/IndexOutOfBoundsException") (text := "no such message, or word in it") (names := zENs) (by decide +kernel) (by decide +kernel) (z_gd 248 (by decide +kernel) (by decide +kernel)) (z_gd 40 (by decide +kernel) (by decide +kernel)) (List.mem_of_getElem? (i := 317) (by decide +kernel)) zat_IndexOutOfBoundsException dX8_word_21 dX8_word_24 dX8_word_25 dX8_word_27 dX8_word_30 (by decide) (by decide) (Nat.le_of_ble_eq_true rfl) (Nat.le_of_ble_eq_true rfl) (Nat.le_of_ble_eq_true rfl) (Nat.le_of_ble_eq_true rfl) ?_
    exact ⟨⟨0, by unfold zx_word; first | (rw [if_neg (by rw [hz]; exact fun q => absurd q.1 (by decide))]) | (rw [if_neg (fun q => by rw [zn_nI (by omega)] at q; rw [c_18] at q; exact absurd q.2 (by decide))]), rfl⟩, rfl, rfl⟩
  · skip
    obtain ⟨m9, hm99, rfl⟩ := zin_t hz (by have := hG.1; omega)
    have hM := hG.2.1 m9 hm99
    refine z_runV X kX8_227 (tX8_messageAt m9 hS hG hnm hm99) (zso_1 hS) rfl rfl (Nat.le_of_ble_eq_true rfl) ⟨by decide, by decide⟩ ⟨by decide, by decide⟩ dX8_word_2 ?_
    rintro _ g1 s1 ⟨rfl, h8, h9⟩
    replace h8 := h8.symm
    subst h8
    replace h9 := h9.symm
    subst h9
    refine z_astore X dX8_word_5 (by decide) ?_
    refine z_aload X dX8_word_7 rfl ?_
    refine z_ifnull X dX8_word_9 ?_
    refine z_aload X dX8_word_12 rfl ?_
    refine z_iload_n X dX8_word_14 rfl ?_
    refine z_runV X kX8_231 (tX3_hasWord _ hG hm99 (hL m9 hm99)) (hM.1) rfl rfl (Nat.le_of_ble_eq_true rfl) ⟨by decide, by decide⟩ ⟨by decide, by decide⟩ dX8_word_15 ?_
    rintro _ g1 s1 ⟨rfl, h8, h9⟩
    replace h8 := h8.symm
    subst h8
    replace h9 := h9.symm
    subst h9
    refine z_if_ne (tgt := 31) X dX8_word_18 (by decide) (fun c_18 => ?_) (fun c_18 => ?_)
    · skip
      try simp (disch := omega) only [zb_notn, zb_not, zb_n0, zb_0, Bool.not_eq_false, Bool.not_eq_true, Bool.not_eq_true', Bool.not_eq_false', decide_eq_true_eq, decide_eq_false_iff_not, Classical.not_not] at c_18
      have hL24 := hL m9 hm99
      obtain ⟨k, hk, rfl⟩ := zin_t c_18 (by omega)
      refine z_iload_n X dX8_word_31 rfl ?_
      refine z_if_eq (tgt := 44) X dX8_word_32 (by decide) (fun c_32 => ?_) (fun c_32 => ?_)
      · skip
        try simp (disch := omega) only [zb_notn, zb_not, zb_n0, zb_0, Bool.not_eq_false, Bool.not_eq_true, Bool.not_eq_true', Bool.not_eq_false', decide_eq_true_eq, decide_eq_false_iff_not, Classical.not_not] at c_32
        refine z_aload X dX8_word_44 rfl ?_
        refine z_iload_n X dX8_word_46 rfl ?_
        refine z_runV X kX8_241 (tX3_wordNow k hG hm99 (hL m9 hm99) hk) (hM.1) rfl rfl (Nat.le_of_ble_eq_true rfl) ⟨by decide, by decide⟩ ⟨by decide, by decide⟩ dX8_word_47 ?_
        rintro _ g1 s1 ⟨rfl, h8, h9⟩
        replace h8 := h8.symm
        subst h8
        replace h9 := h9.symm
        subst h9
        refine z_rx ?_
        refine z_iret X (by decide) (by decide) rfl dX8_word_50 ?_
        exact ⟨by unfold zx_word; rw [if_pos ⟨hz, by rw [zn_nI (by omega)]; exact c_18⟩], rfl, rfl, m9, k, hm99, rfl, hk, rfl, by rw [c_32]; rfl⟩
      · skip
        try simp (disch := omega) only [zb_notn, zb_not, zb_n0, zb_0, Bool.not_eq_false, Bool.not_eq_true, Bool.not_eq_true', Bool.not_eq_false', decide_eq_true_eq, decide_eq_false_iff_not, Classical.not_not] at c_32
        refine z_aload X dX8_word_35 rfl ?_
        refine z_iload_n X dX8_word_37 rfl ?_
        refine z_runV X kX8_289 (tX3_wordSent k hG hm99 (hL m9 hm99) hk) (hM.1) rfl rfl (Nat.le_of_ble_eq_true rfl) ⟨by decide, by decide⟩ ⟨by decide, by decide⟩ dX8_word_38 ?_
        rintro _ g1 s1 ⟨rfl, h8, h9⟩
        replace h8 := h8.symm
        subst h8
        replace h9 := h9.symm
        subst h9
        refine z_goto (tgt := 50) X dX8_word_41 (by decide) ?_
        refine z_rx ?_
        refine z_iret X (by decide) (by decide) rfl dX8_word_50 ?_
        exact ⟨by unfold zx_word; rw [if_pos ⟨hz, by rw [zn_nI (by omega)]; exact c_18⟩], rfl, rfl, m9, k, hm99, rfl, hk, rfl, by rw [c_32]; rfl⟩
    · skip
      try simp (disch := omega) only [zb_notn, zb_not, zb_n0, zb_0, Bool.not_eq_false, Bool.not_eq_true, Bool.not_eq_true', Bool.not_eq_false', decide_eq_true_eq, decide_eq_false_iff_not, Classical.not_not] at c_18
      refine z_throw X Y (cls := "java/lang/IndexOutOfBoundsException") (text := "no such message, or word in it") (names := zENs) (by decide +kernel) (by decide +kernel) (z_gd 248 (by decide +kernel) (by decide +kernel)) (z_gd 40 (by decide +kernel) (by decide +kernel)) (List.mem_of_getElem? (i := 317) (by decide +kernel)) zat_IndexOutOfBoundsException dX8_word_21 dX8_word_24 dX8_word_25 dX8_word_27 dX8_word_30 (by decide) (by decide) (Nat.le_of_ble_eq_true rfl) (Nat.le_of_ble_eq_true rfl) (Nat.le_of_ble_eq_true rfl) (Nat.le_of_ble_eq_true rfl) ?_
      exact ⟨⟨0, by unfold zx_word; first | (rw [if_neg (by rw [hz]; exact fun q => absurd q.1 (by decide))]) | (rw [if_neg (fun q => by rw [zn_nI (by omega)] at q; rw [c_18] at q; exact absurd q.2 (by decide))]), rfl⟩, rfl, rfl⟩

abbrev NX8_accountAnew : zM := (yX8_accountAnew, cX8_accountAnew, 5, (some .int), 6, 1, 6, 140)
set_option maxHeartbeats 4000000 in
set_option maxRecDepth 100000 in
theorem tX8_accountAnew {l : Launch} {D : va_G} {cy : Nat → ClassId} {z0 : zRg} {g : zSh} {σ : zIn} (hfl : l.stackTraces = false) {no nm nc : Nat} {ro : Nat → Nat → Nat} {ad fr : Nat → Nat} (xq : Int32) (hS : zS g) (hO : zO g no) (hno : σ 13 4 = nI no) (hG : zG g nm) (hnm : σ 1 8 = nI nm) (hK : zC g nc) (hnc : σ 13 5 = nI nc) (hro : ∀ m, m < nm → ∀ i, i < g.2.2.2.1 (500 + m) → σ (500 + m) i = nI (ro m i) ∧ ro m i < nc) (had : ∀ c, c < nc → σ (120 + c) 0 = nI (ad c) ∧ ad c < no) (hrl : ∀ m, m < nm → g.2.2.2.1 (500 + m) ≤ 8) (hfr : ∀ m, m < nm → σ (200 + m) 0 = nI (fr m) ∧ fr m < no) : z_Cx l D cy z0 NX8_accountAnew [.ref (g.2.1 1), .int xq] g σ (fun v g' σ' => zx_in no xq = 0 ∧ g' = g ∧ σ' = σ ∧ ∃ o2, o2 < no ∧ xq = nI o2 ∧ v = some (.int (zis (fun m => zshr σ ad (ro m) m (fr m) o2 (g.2.2.2.1 (500 + m))) nm))) (fun E g' σ' => zXk ["java/lang/IndexOutOfBoundsException"] (zx_in no xq) E ∧ g' = g ∧ σ' = σ) := by
  have hn8 := hO.1
  have hn60 := hG.1
  refine z_ofX hfl (by decide) (z_cr (z_ci z_c0)) (Nat.le_of_ble_eq_true rfl) ?_
  intro p e s m args below meth c X Y
  refine z_aload_n X dX8_accountAnew_0 rfl ?_
  refine z_getr2 X fX8_35 (zso_1 hS) (zsr_1_3 hS) rfl dX8_accountAnew_1 ?_
  refine z_iload_n X dX8_accountAnew_4 rfl ?_
  cases hz : zin xq no
  · skip
    skip
    refine z_runV X kX8_138 (tX4_officeAtN xq hS hO hno hz) (zso_13 hS) rfl rfl (Nat.le_of_ble_eq_true rfl) ⟨by decide, by decide⟩ ⟨by decide, by decide⟩ dX8_accountAnew_5 ?_
    rintro _ g1 s1 ⟨rfl, h8, h9⟩
    replace h8 := h8.symm
    subst h8
    replace h9 := h9.symm
    subst h9
    refine z_ifnonnullN X dX8_accountAnew_8 ?_
    refine z_throw X Y (cls := "java/lang/IndexOutOfBoundsException") (text := "no such office") (names := zENs) (by decide +kernel) (by decide +kernel) (z_gd 248 (by decide +kernel) (by decide +kernel)) (z_gd 40 (by decide +kernel) (by decide +kernel)) (List.mem_of_getElem? (i := 410) (by decide +kernel)) zat_IndexOutOfBoundsException dX8_accountAnew_11 dX8_accountAnew_14 dX8_accountAnew_15 dX8_accountAnew_17 dX8_accountAnew_20 (by decide) (by decide) (Nat.le_of_ble_eq_true rfl) (Nat.le_of_ble_eq_true rfl) (Nat.le_of_ble_eq_true rfl) (Nat.le_of_ble_eq_true rfl) ?_
    exact ⟨⟨0, by unfold zx_in; simp_all, rfl⟩, rfl, rfl⟩
  · skip
    obtain ⟨o, ho9, rfl⟩ := zin_t hz (by have := hO.1; omega)
    have hF := hO.2.1 o ho9
    refine z_runV X kX8_138 (tX4_officeAt o hS hO hno ho9) (zso_13 hS) rfl rfl (Nat.le_of_ble_eq_true rfl) ⟨by decide, by decide⟩ ⟨by decide, by decide⟩ dX8_accountAnew_5 ?_
    rintro _ g1 s1 ⟨rfl, h8, h9⟩
    replace h8 := h8.symm
    subst h8
    replace h9 := h9.symm
    subst h9
    refine z_ifnonnull (tgt := 21) X dX8_accountAnew_8 (by decide) ?_
    refine z_iconst (v := nI 0) X (by decide) dX8_accountAnew_21 ?_
    refine z_istore_n X dX8_accountAnew_22 (by decide) ?_
    have loop_25 : ∀ (n : Nat) (k : Nat) (v1 : Option Value) (hk : k ≤ nm) (hn : nm - k < n), z_V p l e (zRm NX8_accountAnew) s m args below meth c 5 D cy z0 0 0 (zQx NX8_accountAnew below D cy z0 (fun v g' σ' => zx_in no (nI o) = 0 ∧ g' = g ∧ σ' = σ ∧ ∃ o2, o2 < no ∧ (nI o) = nI o2 ∧ v = some (.int (zis (fun m => zshr σ ad (ro m) m (fr m) o2 (g.2.2.2.1 (500 + m))) nm))) (fun E g' σ' => zXk ["java/lang/IndexOutOfBoundsException"] (zx_in no (nI o)) E ∧ g' = g ∧ σ' = σ) args s) 25 [some (.ref (g.2.1 1)), some (.int (nI o)), some (.int (zis (fun m => zshr σ ad (ro m) m (fr m) o (g.2.2.2.1 (500 + m))) k)), some (.int (nI k)), v1] [] g σ := by
      intro n
      induction n with
      | zero => intro k v1 hk hn; exact absurd hn (Nat.not_lt_zero _)
      | succ n ih_25 =>
        intro k v1 hk hn
        refine z_iload_n X dX8_accountAnew_25 rfl ?_
        refine z_aload_n X dX8_accountAnew_26 rfl ?_
        refine z_geti X fX8_62 (zso_1 hS) rfl dX8_accountAnew_27 ?_
        rw [hnm]
        refine z_icmp_ge (tgt := 61) X dX8_accountAnew_30 (by decide) (fun c_30 => ?_) (fun c_30 => ?_)
        · skip
          try simp (disch := omega) only [zk0, nI_leI, nI_ltI, nI_eq, zbk_notn, zbk_not, zbk_n0, zbk_0, zb_0, zb_n0, zb_not, zb_notn, Bool.not_eq_false, Bool.not_eq_true, Bool.not_eq_true', Bool.not_eq_false', decide_eq_true_eq, decide_eq_false_iff_not, Classical.not_not] at c_30
          refine z_iload_n X dX8_accountAnew_61 rfl ?_
          refine z_rx ?_
          refine z_iret X (by decide) (by decide) rfl dX8_accountAnew_62 ?_
          have e : k = nm := by omega
          subst e
          exact ⟨by unfold zx_in; rw [if_pos hz], rfl, rfl, o, ho9, rfl, rfl⟩
        · skip
          try simp (disch := omega) only [zk0, nI_leI, nI_ltI, nI_eq, zbk_notn, zbk_not, zbk_n0, zbk_0, zb_0, zb_n0, zb_not, zb_notn, Bool.not_eq_false, Bool.not_eq_true, Bool.not_eq_true', Bool.not_eq_false', decide_eq_true_eq, decide_eq_false_iff_not, Classical.not_not] at c_30
          refine z_aload_n X dX8_accountAnew_33 rfl ?_
          refine z_iload_n X dX8_accountAnew_34 rfl ?_
          refine z_runV X kX8_227 (tX8_messageAt k hS hG hnm (by omega)) (zso_1 hS) rfl rfl (Nat.le_of_ble_eq_true rfl) ⟨by decide, by decide⟩ ⟨by decide, by decide⟩ dX8_accountAnew_35 ?_
          rintro _ g1 s1 ⟨rfl, h8, h9⟩
          replace h8 := h8.symm
          subst h8
          replace h9 := h9.symm
          subst h9
          have hM := hG.2.1 k (by omega)
          refine z_astore X dX8_accountAnew_38 (by decide) ?_
          refine z_aload X dX8_accountAnew_40 rfl ?_
          refine z_ifnull X dX8_accountAnew_42 ?_
          refine z_iload_n X dX8_accountAnew_45 rfl ?_
          refine z_aload_n X dX8_accountAnew_46 rfl ?_
          refine z_aload X dX8_accountAnew_47 rfl ?_
          refine z_iload_n X dX8_accountAnew_49 rfl ?_
          refine z_runV X kX8_322 (tX8_shareIn hS hO hno hG (by omega) hK hnc (hro k (by omega)) had (hrl k (by omega)) (hfr k (by omega)).1 (hfr k (by omega)).2 ho9) (zso_1 hS) rfl rfl (Nat.le_of_ble_eq_true rfl) ⟨by decide, by decide⟩ ⟨by decide, by decide⟩ dX8_accountAnew_50 ?_
          rintro _ g1 s1 ⟨rfl, h8, h9⟩
          replace h8 := h8.symm
          subst h8
          replace h9 := h9.symm
          subst h9
          refine z_iadd X dX8_accountAnew_53 ?_
          refine z_istore_n X dX8_accountAnew_54 (by decide) ?_
          refine z_inc1 X dX8_accountAnew_55 rfl (by decide) ?_
          refine z_goto (tgt := 25) X dX8_accountAnew_58 (by decide) ?_
          exact ih_25 (k + 1) _ (by omega) (by omega)
    refine z_iconst (v := nI 0) X (by decide) dX8_accountAnew_23 ?_
    refine z_istore_n X dX8_accountAnew_24 (by decide) ?_
    exact loop_25 (nm - 0 + 1) 0 _ (by omega) (by omega)

def zx_rest (mi : Nat) (x : Int32) : Nat := if x < 1 ∨ 100 < x then 1 else if 1000000 < mi + 1440 * zn x then 2 else 0
def zx_pass (mi : Nat) (x : Int32) : Nat := if x < 1 ∨ 60 < x then 1 else if 1000000 < mi + zn x then 2 else 0
theorem zkM : (1000000 : Int32) = nI 1000000 := rfl
abbrev NX8_rest : zM := (yX8_rest, cX8_rest, 2, (some .int), 6, 1, 6, 140)
set_option maxHeartbeats 4000000 in
set_option maxRecDepth 100000 in
theorem tX8_rest {l : Launch} {D : va_G} {cy : Nat → ClassId} {z0 : zRg} {g : zSh} {σ : zIn} (hfl : l.stackTraces = false) {mi : Nat} (x : Int32) (hS : zS g) (hmi : σ 1 9 = nI mi) (hmi2 : mi ≤ 1000000) : z_Cx l D cy z0 NX8_rest [.ref (g.2.1 1), .int x] g σ (fun v g' σ' => zx_rest mi x = 0 ∧ g' = g ∧ v = some (.int (nI (mi + 1440 * zn x))) ∧ mi + 1440 * zn x ≤ 1000000 ∧ σ' = z_up σ 1 9 (nI (mi + 1440 * zn x))) (fun E g' σ' => zXk ["java/lang/IllegalArgumentException", "java/lang/IllegalStateException"] (zx_rest mi x) E ∧ g' = g ∧ σ' = σ) := by
  refine z_ofX hfl (by decide) (z_cr (z_ci z_c0)) (Nat.le_of_ble_eq_true rfl) ?_
  intro p e s m args below meth c X Y
  refine z_iload_n X dX8_rest_0 rfl ?_
  refine z_iconst (v := 1) X (by decide) dX8_rest_1 ?_
  refine z_bipush (v := 100) X (by decide) dX8_rest_2 ?_
  refine z_runS X kX8_68 (tX8_isOutside _ _ _) rfl rfl (Nat.le_of_ble_eq_true rfl) ⟨by decide, by decide⟩ ⟨by decide, by decide⟩ dX8_rest_4 ?_
  rintro _ g1 s1 ⟨rfl, h8, h9⟩
  replace h8 := h8.symm
  subst h8
  replace h9 := h9.symm
  subst h9
  refine z_if_eq (tgt := 21) X dX8_rest_7 (by decide) (fun c_7 => ?_) (fun c_7 => ?_)
  · skip
    try simp (disch := omega) only [zb_notn, zb_not, zb_n0, zb_0, Bool.not_eq_false, Bool.not_eq_true, Bool.not_eq_true', Bool.not_eq_false', decide_eq_true_eq, decide_eq_false_iff_not, Classical.not_not] at c_7
    obtain ⟨k, hk1, hk2, rfl⟩ := zrg_k (n := 100) (by decide) c_7
    have ek : zn (nI k) = k := zn_nI (by omega)
    refine z_aload_n X dX8_rest_21 rfl ?_
    refine z_geti X fX8_65 (zso_1 hS) rfl dX8_rest_22 ?_
    rw [hmi]
    refine z_iload_n X dX8_rest_25 rfl ?_
    refine z_sipush (v := nI 1440) X (by decide) dX8_rest_26 ?_
    refine z_imulN X dX8_rest_29 ?_
    refine z_iaddN X dX8_rest_30 ?_
    refine z_ldcw X qX8_259 dX8_rest_31 ?_
    rw [zkM]
    refine z_icmp_le (tgt := 48) X dX8_rest_34 (by decide) (fun c_34 => ?_) (fun c_34 => ?_)
    · skip
      try simp (disch := omega) only [zk0, nI_leI, nI_ltI, nI_eq, zbk_notn, zbk_not, zbk_n0, zbk_0, zb_0, zb_n0, zb_not, zb_notn, Bool.not_eq_false, Bool.not_eq_true, Bool.not_eq_true', Bool.not_eq_false', decide_eq_true_eq, decide_eq_false_iff_not, Classical.not_not] at c_34
      refine z_aload_n X dX8_rest_48 rfl ?_
      refine z_dup X rfl dX8_rest_49 ?_
      refine z_geti X fX8_65 (zso_1 hS) rfl dX8_rest_50 ?_
      rw [hmi]
      refine z_iload_n X dX8_rest_53 rfl ?_
      refine z_sipush (v := nI 1440) X (by decide) dX8_rest_54 ?_
      refine z_imulN X dX8_rest_57 ?_
      refine z_iaddN X dX8_rest_58 ?_
      refine z_puti X fX8_65 (zso_1 hS) rfl dX8_rest_59 ?_
      refine z_aload_n X dX8_rest_62 rfl ?_
      refine z_geti X fX8_65 (zso_1 hS) rfl dX8_rest_63 ?_
      rw [z_up_app, if_pos rfl, if_pos rfl]
      refine z_rx ?_
      refine z_iret X (by decide) (by decide) rfl dX8_rest_66 ?_
      rw [ek]
      exact ⟨by unfold zx_rest; rw [if_neg c_7, if_neg (by rw [ek]; omega)], rfl, by rw [show k * 1440 = 1440 * k from Nat.mul_comm _ _], by omega, by rw [show k * 1440 = 1440 * k from Nat.mul_comm _ _]⟩
    · skip
      try simp (disch := omega) only [zk0, nI_leI, nI_ltI, nI_eq, zbk_notn, zbk_not, zbk_n0, zbk_0, zb_0, zb_n0, zb_not, zb_notn, Bool.not_eq_false, Bool.not_eq_true, Bool.not_eq_true', Bool.not_eq_false', decide_eq_true_eq, decide_eq_false_iff_not, Classical.not_not] at c_34
      refine z_throwW X Y (cls := "java/lang/IllegalStateException") (text := "the minute would be above 1000000") (names := zENs) (by decide +kernel) (by decide +kernel) (z_gd 559 (by decide +kernel) (by decide +kernel)) (z_gd 39 (by decide +kernel) (by decide +kernel)) (List.mem_of_getElem? (i := 872) (by decide +kernel)) zat_IllegalStateException dX8_rest_37 dX8_rest_40 dX8_rest_41 dX8_rest_44 dX8_rest_47 (by decide) (by decide) (Nat.le_of_ble_eq_true rfl) (Nat.le_of_ble_eq_true rfl) (Nat.le_of_ble_eq_true rfl) (Nat.le_of_ble_eq_true rfl) ?_
      exact ⟨⟨1, by unfold zx_rest; rw [if_neg c_7, if_pos (by rw [ek]; omega)], rfl⟩, rfl, rfl⟩
  · skip
    try simp (disch := omega) only [zb_notn, zb_not, zb_n0, zb_0, Bool.not_eq_false, Bool.not_eq_true, Bool.not_eq_true', Bool.not_eq_false', decide_eq_true_eq, decide_eq_false_iff_not, Classical.not_not] at c_7
    refine z_throwW X Y (cls := "java/lang/IllegalArgumentException") (text := "days is out of range") (names := zENs) (by decide +kernel) (by decide +kernel) (z_gd 321 (by decide +kernel) (by decide +kernel)) (z_gd 38 (by decide +kernel) (by decide +kernel)) (List.mem_of_getElem? (i := 897) (by decide +kernel)) zat_IllegalArgumentException dX8_rest_10 dX8_rest_13 dX8_rest_14 dX8_rest_17 dX8_rest_20 (by decide) (by decide) (Nat.le_of_ble_eq_true rfl) (Nat.le_of_ble_eq_true rfl) (Nat.le_of_ble_eq_true rfl) (Nat.le_of_ble_eq_true rfl) ?_
    exact ⟨⟨0, by unfold zx_rest; rw [if_pos c_7], rfl⟩, rfl, rfl⟩

def zx_wrong (g : zSh) (σ : zIn) (nm : Nat) (x y a b : Int32) : Nat := if ¬ (zin x nm = true ∧ zin y (g.2.2.2.1 (300 + zn x)) = true) then 1 else if (a < 0 ∨ 4 < a) ∨ (b < 0 ∨ 25 < b) then 2 else if ¬ (σ (200 + zn x) 9 = 0 ∧ 0 ≤ σ (400 + zn x) (zn y)) then 3 else 0
theorem zrg_0 {y : Int32} {n : Nat} (hn : n < 1000) (h : ¬ (y < 0 ∨ nI n < y)) : ∃ k, k ≤ n ∧ y = nI k := by
  have h1 : ¬ y < 0 := fun q => h (Or.inl q)
  have h2 : ¬ nI n < y := fun q => h (Or.inr q)
  obtain ⟨j, hj, rfl⟩ := nI_of h1
  rw [Int32.lt_iff_toInt_lt, nI_toInt (by omega), nI_toInt hj] at h2
  exact ⟨j, by omega, rfl⟩
abbrev NX8_wrong : zM := (yX8_wrong, cX8_wrong, 6, (some .int), 6, 1, 6, 140)
set_option maxHeartbeats 4000000 in
set_option maxRecDepth 100000 in
theorem tX8_wrong {l : Launch} {D : va_G} {cy : Nat → ClassId} {z0 : zRg} {g : zSh} {σ : zIn} (hfl : l.stackTraces = false) {nm : Nat} (x y a b : Int32) (hS : zS g) (hG : zG g nm) (hnm : σ 1 8 = nI nm) (hL : ∀ m, m < nm → g.2.2.2.1 (300 + m) ≤ 24) : z_Cx l D cy z0 NX8_wrong [.ref (g.2.1 1), .int x, .int y, .int a, .int b] g σ (fun v g' σ' => zx_wrong g σ nm x y a b = 0 ∧ g' = g ∧ ∃ m9 k q t W, m9 < nm ∧ x = nI m9 ∧ k < g.2.2.2.1 (300 + m9) ∧ y = nI k ∧ q < 5 ∧ a = nI q ∧ t < 26 ∧ b = nI t ∧ W < 2 ^ 31 ∧ σ (400 + m9) k = nI W ∧ v = some (.int (nI W + (nI t - nI (zl (nI W) q)) * nI (26 ^ (4 - q)))) ∧ σ' = z_up σ (400 + m9) k (nI W + (nI t - nI (zl (nI W) q)) * nI (26 ^ (4 - q)))) (fun E g' σ' => zXk ["java/lang/IndexOutOfBoundsException", "java/lang/IllegalArgumentException", "java/lang/IllegalStateException"] (zx_wrong g σ nm x y a b) E ∧ g' = g ∧ σ' = σ) := by
  have hn60 := hG.1
  refine z_ofX hfl (by decide) (z_cr (z_ci (z_ci (z_ci (z_ci z_c0))))) (Nat.le_of_ble_eq_true rfl) ?_
  intro p e s m args below meth c X Y
  refine z_aload_n X dX8_wrong_0 rfl ?_
  refine z_iload_n X dX8_wrong_1 rfl ?_
  cases hz : zin x nm
  · skip
    skip
    refine z_runV X kX8_227 (tX8_messageAtN x hS hG hnm hz) (zso_1 hS) rfl rfl (Nat.le_of_ble_eq_true rfl) ⟨by decide, by decide⟩ ⟨by decide, by decide⟩ dX8_wrong_2 ?_
    rintro _ g1 s1 ⟨rfl, h8, h9⟩
    replace h8 := h8.symm
    subst h8
    replace h9 := h9.symm
    subst h9
    refine z_astoreN X dX8_wrong_5 (by decide) ?_
    refine z_aloadN X dX8_wrong_7 rfl ?_
    refine z_ifnullN (tgt := 21) X dX8_wrong_9 (by decide) ?_
    refine z_throw X Y (cls := "java/lang/IndexOutOfBoundsException") (text := "no such message, or word in it") (names := zENs) (by decide +kernel) (by decide +kernel) (z_gd 248 (by decide +kernel) (by decide +kernel)) (z_gd 40 (by decide +kernel) (by decide +kernel)) (List.mem_of_getElem? (i := 317) (by decide +kernel)) zat_IndexOutOfBoundsException dX8_wrong_21 dX8_wrong_24 dX8_wrong_25 dX8_wrong_27 dX8_wrong_30 (by decide) (by decide) (Nat.le_of_ble_eq_true rfl) (Nat.le_of_ble_eq_true rfl) (Nat.le_of_ble_eq_true rfl) (Nat.le_of_ble_eq_true rfl) ?_
    exact ⟨⟨0, by unfold zx_wrong; first | (rw [if_pos (by rw [hz]; exact fun q => absurd q.1 (by decide))]) | (rw [if_pos (fun q => by rw [zn_nI (by omega)] at q; rw [c_18] at q; exact absurd q.2 (by decide))]), rfl⟩, rfl, rfl⟩
  · skip
    obtain ⟨m9, hm99, rfl⟩ := zin_t hz (by have := hG.1; omega)
    have hM := hG.2.1 m9 hm99
    refine z_runV X kX8_227 (tX8_messageAt m9 hS hG hnm hm99) (zso_1 hS) rfl rfl (Nat.le_of_ble_eq_true rfl) ⟨by decide, by decide⟩ ⟨by decide, by decide⟩ dX8_wrong_2 ?_
    rintro _ g1 s1 ⟨rfl, h8, h9⟩
    replace h8 := h8.symm
    subst h8
    replace h9 := h9.symm
    subst h9
    refine z_astore X dX8_wrong_5 (by decide) ?_
    refine z_aload X dX8_wrong_7 rfl ?_
    refine z_ifnull X dX8_wrong_9 ?_
    refine z_aload X dX8_wrong_12 rfl ?_
    refine z_iload_n X dX8_wrong_14 rfl ?_
    refine z_runV X kX8_231 (tX3_hasWord _ hG hm99 (hL m9 hm99)) (hM.1) rfl rfl (Nat.le_of_ble_eq_true rfl) ⟨by decide, by decide⟩ ⟨by decide, by decide⟩ dX8_wrong_15 ?_
    rintro _ g1 s1 ⟨rfl, h8, h9⟩
    replace h8 := h8.symm
    subst h8
    replace h9 := h9.symm
    subst h9
    refine z_if_ne (tgt := 31) X dX8_wrong_18 (by decide) (fun c_18 => ?_) (fun c_18 => ?_)
    · skip
      try simp (disch := omega) only [zb_notn, zb_not, zb_n0, zb_0, Bool.not_eq_false, Bool.not_eq_true, Bool.not_eq_true', Bool.not_eq_false', decide_eq_true_eq, decide_eq_false_iff_not, Classical.not_not] at c_18
      have hL24 := hL m9 hm99
      obtain ⟨k, hk, rfl⟩ := zin_t c_18 (by omega)
      have ex : zn (nI m9) = m9 := zn_nI (by omega)
      have ey : zn (nI k) = k := zn_nI (by omega)
      refine z_iload_n X dX8_wrong_31 rfl ?_
      refine z_iconst (v := 0) X (by decide) dX8_wrong_32 ?_
      refine z_iconst (v := 4) X (by decide) dX8_wrong_33 ?_
      refine z_runS X kX8_68 (tX8_isOutside _ _ _) rfl rfl (Nat.le_of_ble_eq_true rfl) ⟨by decide, by decide⟩ ⟨by decide, by decide⟩ dX8_wrong_34 ?_
      rintro _ g1 s1 ⟨rfl, h8, h9⟩
      replace h8 := h8.symm
      subst h8
      replace h9 := h9.symm
      subst h9
      refine z_if_ne (tgt := 51) X dX8_wrong_37 (by decide) (fun c_37 => ?_) (fun c_37 => ?_)
      · skip
        try simp (disch := omega) only [zb_notn, zb_not, zb_n0, zb_0, Bool.not_eq_false, Bool.not_eq_true, Bool.not_eq_true', Bool.not_eq_false', decide_eq_true_eq, decide_eq_false_iff_not, Classical.not_not] at c_37
        refine z_throw X Y (cls := "java/lang/IllegalArgumentException") (text := "letter or to is out of range") (names := zENs) (by decide +kernel) (by decide +kernel) (z_gd 321 (by decide +kernel) (by decide +kernel)) (z_gd 38 (by decide +kernel) (by decide +kernel)) (List.mem_of_getElem? (i := 857) (by decide +kernel)) zat_IllegalArgumentException dX8_wrong_51 dX8_wrong_54 dX8_wrong_55 dX8_wrong_57 dX8_wrong_60 (by decide) (by decide) (Nat.le_of_ble_eq_true rfl) (Nat.le_of_ble_eq_true rfl) (Nat.le_of_ble_eq_true rfl) (Nat.le_of_ble_eq_true rfl) ?_
        exact ⟨⟨1, by unfold zx_wrong; rw [if_neg (fun q => q ⟨hz, by rw [ex]; exact c_18⟩), if_pos (by first | exact Or.inl c_37 | exact Or.inr c_48)], rfl⟩, rfl, rfl⟩
      · skip
        try simp (disch := omega) only [zb_notn, zb_not, zb_n0, zb_0, Bool.not_eq_false, Bool.not_eq_true, Bool.not_eq_true', Bool.not_eq_false', decide_eq_true_eq, decide_eq_false_iff_not, Classical.not_not] at c_37
        refine z_iload X dX8_wrong_40 rfl ?_
        refine z_iconst (v := 0) X (by decide) dX8_wrong_42 ?_
        refine z_bipush (v := 25) X (by decide) dX8_wrong_43 ?_
        refine z_runS X kX8_68 (tX8_isOutside _ _ _) rfl rfl (Nat.le_of_ble_eq_true rfl) ⟨by decide, by decide⟩ ⟨by decide, by decide⟩ dX8_wrong_45 ?_
        rintro _ g1 s1 ⟨rfl, h8, h9⟩
        replace h8 := h8.symm
        subst h8
        replace h9 := h9.symm
        subst h9
        refine z_if_eq (tgt := 61) X dX8_wrong_48 (by decide) (fun c_48 => ?_) (fun c_48 => ?_)
        · skip
          try simp (disch := omega) only [zb_notn, zb_not, zb_n0, zb_0, Bool.not_eq_false, Bool.not_eq_true, Bool.not_eq_true', Bool.not_eq_false', decide_eq_true_eq, decide_eq_false_iff_not, Classical.not_not] at c_48
          refine z_aload X dX8_wrong_61 rfl ?_
          refine z_geti X fX8_238 (hM.1) rfl dX8_wrong_63 ?_
          refine z_if_ne (tgt := 81) X dX8_wrong_66 (by decide) (fun c_66 => ?_) (fun c_66 => ?_)
          · skip
            try simp (disch := omega) only [zb_notn, zb_not, zb_n0, zb_0, Bool.not_eq_false, Bool.not_eq_true, Bool.not_eq_true', Bool.not_eq_false', decide_eq_true_eq, decide_eq_false_iff_not, Classical.not_not] at c_66
            refine z_throw X Y (cls := "java/lang/IllegalStateException") (text := "the message is not UNDERWAY, or that is a plain word") (names := zENs) (by decide +kernel) (by decide +kernel) (z_gd 559 (by decide +kernel) (by decide +kernel)) (z_gd 39 (by decide +kernel) (by decide +kernel)) (List.mem_of_getElem? (i := 858) (by decide +kernel)) zat_IllegalStateException dX8_wrong_81 dX8_wrong_84 dX8_wrong_85 dX8_wrong_87 dX8_wrong_90 (by decide) (by decide) (Nat.le_of_ble_eq_true rfl) (Nat.le_of_ble_eq_true rfl) (Nat.le_of_ble_eq_true rfl) (Nat.le_of_ble_eq_true rfl) ?_
            exact ⟨⟨2, by unfold zx_wrong; rw [if_neg (fun q => q ⟨hz, by rw [ex]; exact c_18⟩), if_neg (fun q => q.elim c_37 c_48), if_pos (fun q => by rw [ex, ey] at q; first | exact c_66 q.1 | exact c_78 q.2)], rfl⟩, rfl, rfl⟩
          · skip
            try simp (disch := omega) only [zb_notn, zb_not, zb_n0, zb_0, Bool.not_eq_false, Bool.not_eq_true, Bool.not_eq_true', Bool.not_eq_false', decide_eq_true_eq, decide_eq_false_iff_not, Classical.not_not] at c_66
            refine z_aload X dX8_wrong_69 rfl ?_
            refine z_iload_n X dX8_wrong_71 rfl ?_
            refine z_runV X kX8_241 (tX3_wordNow k hG hm99 (hL m9 hm99) hk) (hM.1) rfl rfl (Nat.le_of_ble_eq_true rfl) ⟨by decide, by decide⟩ ⟨by decide, by decide⟩ dX8_wrong_72 ?_
            rintro _ g1 s1 ⟨rfl, h8, h9⟩
            replace h8 := h8.symm
            subst h8
            replace h9 := h9.symm
            subst h9
            refine z_runS X kX8_244 (tX8_isCode _) rfl rfl (Nat.le_of_ble_eq_true rfl) ⟨by decide, by decide⟩ ⟨by decide, by decide⟩ dX8_wrong_75 ?_
            rintro _ g1 s1 ⟨rfl, h8, h9⟩
            replace h8 := h8.symm
            subst h8
            replace h9 := h9.symm
            subst h9
            refine z_if_ne (tgt := 91) X dX8_wrong_78 (by decide) (fun c_78 => ?_) (fun c_78 => ?_)
            · skip
              try simp (disch := omega) only [zb_notn, zb_not, zb_n0, zb_0, Bool.not_eq_false, Bool.not_eq_true, Bool.not_eq_true', Bool.not_eq_false', decide_eq_true_eq, decide_eq_false_iff_not, Classical.not_not] at c_78
              obtain ⟨q, hq, rfl⟩ := zrg_0 (n := 4) (by decide) c_37
              obtain ⟨t, ht, rfl⟩ := zrg_0 (n := 25) (by decide) c_48
              obtain ⟨hw1, hW⟩ := zw_of c_78
              generalize hWg : (σ (400 + m9) k).toInt.toNat = W at hw1 hW
              refine z_aload X dX8_wrong_91 rfl ?_
              refine z_iload_n X dX8_wrong_93 rfl ?_
              refine z_aload X dX8_wrong_94 rfl ?_
              refine z_iload_n X dX8_wrong_96 rfl ?_
              refine z_runV X kX8_241 (tX3_wordNow k hG hm99 (hL m9 hm99) hk) (hM.1) rfl rfl (Nat.le_of_ble_eq_true rfl) ⟨by decide, by decide⟩ ⟨by decide, by decide⟩ dX8_wrong_97 ?_
              rintro _ g1 s1 ⟨rfl, h8, h9⟩
              replace h8 := h8.symm
              subst h8
              replace h9 := h9.symm
              subst h9
              rw [hw1]
              refine z_iload_n X dX8_wrong_100 rfl ?_
              refine z_iload X dX8_wrong_101 rfl ?_
              refine z_runS X kX8_249 (tX8_withLetter W q t hW (by omega) (by omega)) rfl rfl (Nat.le_of_ble_eq_true rfl) ⟨by decide, by decide⟩ ⟨by decide, by decide⟩ dX8_wrong_103 ?_
              rintro _ g1 s1 ⟨rfl, h8, h9⟩
              replace h8 := h8.symm
              subst h8
              replace h9 := h9.symm
              subst h9
              refine z_runV X kX8_253 (tX3_change k _ hG hm99 (hL m9 hm99) hk) (hM.1) rfl rfl (Nat.le_of_ble_eq_true rfl) ⟨by decide, by decide⟩ ⟨by decide, by decide⟩ dX8_wrong_106 ?_
              rintro _ g1 s1 ⟨rfl, h8, h9⟩
              replace h8 := h8.symm
              subst h8
              replace h9 := h9.symm
              subst h9
              refine z_aload X dX8_wrong_109 rfl ?_
              refine z_iload_n X dX8_wrong_111 rfl ?_
              refine z_runV X kX8_241 (tX3_wordNow k hG hm99 (hL m9 hm99) hk) (hM.1) rfl rfl (Nat.le_of_ble_eq_true rfl) ⟨by decide, by decide⟩ ⟨by decide, by decide⟩ dX8_wrong_112 ?_
              rintro _ g1 s1 ⟨rfl, h8, h9⟩
              replace h8 := h8.symm
              subst h8
              replace h9 := h9.symm
              subst h9
              rw [z_up_app, if_pos rfl, if_pos rfl]
              refine z_rx ?_
              refine z_iret X (by decide) (by decide) rfl dX8_wrong_115 ?_
              exact ⟨by unfold zx_wrong; rw [if_neg (fun q => q ⟨hz, by rw [ex]; exact c_18⟩), if_neg (fun q => q.elim c_37 c_48), if_neg (fun q => q (by rw [ex, ey]; exact ⟨c_66, c_78⟩))], rfl, m9, k, q, t, W, hm99, rfl, hk, rfl, by omega, rfl, by omega, rfl, hW, hw1, rfl, rfl⟩
            · skip
              try simp (disch := omega) only [zb_notn, zb_not, zb_n0, zb_0, Bool.not_eq_false, Bool.not_eq_true, Bool.not_eq_true', Bool.not_eq_false', decide_eq_true_eq, decide_eq_false_iff_not, Classical.not_not] at c_78
              refine z_throw X Y (cls := "java/lang/IllegalStateException") (text := "the message is not UNDERWAY, or that is a plain word") (names := zENs) (by decide +kernel) (by decide +kernel) (z_gd 559 (by decide +kernel) (by decide +kernel)) (z_gd 39 (by decide +kernel) (by decide +kernel)) (List.mem_of_getElem? (i := 858) (by decide +kernel)) zat_IllegalStateException dX8_wrong_81 dX8_wrong_84 dX8_wrong_85 dX8_wrong_87 dX8_wrong_90 (by decide) (by decide) (Nat.le_of_ble_eq_true rfl) (Nat.le_of_ble_eq_true rfl) (Nat.le_of_ble_eq_true rfl) (Nat.le_of_ble_eq_true rfl) ?_
              exact ⟨⟨2, by unfold zx_wrong; rw [if_neg (fun q => q ⟨hz, by rw [ex]; exact c_18⟩), if_neg (fun q => q.elim c_37 c_48), if_pos (fun q => by rw [ex, ey] at q; first | exact c_66 q.1 | exact c_78 q.2)], rfl⟩, rfl, rfl⟩
        · skip
          try simp (disch := omega) only [zb_notn, zb_not, zb_n0, zb_0, Bool.not_eq_false, Bool.not_eq_true, Bool.not_eq_true', Bool.not_eq_false', decide_eq_true_eq, decide_eq_false_iff_not, Classical.not_not] at c_48
          refine z_throw X Y (cls := "java/lang/IllegalArgumentException") (text := "letter or to is out of range") (names := zENs) (by decide +kernel) (by decide +kernel) (z_gd 321 (by decide +kernel) (by decide +kernel)) (z_gd 38 (by decide +kernel) (by decide +kernel)) (List.mem_of_getElem? (i := 857) (by decide +kernel)) zat_IllegalArgumentException dX8_wrong_51 dX8_wrong_54 dX8_wrong_55 dX8_wrong_57 dX8_wrong_60 (by decide) (by decide) (Nat.le_of_ble_eq_true rfl) (Nat.le_of_ble_eq_true rfl) (Nat.le_of_ble_eq_true rfl) (Nat.le_of_ble_eq_true rfl) ?_
          exact ⟨⟨1, by unfold zx_wrong; rw [if_neg (fun q => q ⟨hz, by rw [ex]; exact c_18⟩), if_pos (by first | exact Or.inl c_37 | exact Or.inr c_48)], rfl⟩, rfl, rfl⟩
    · skip
      try simp (disch := omega) only [zb_notn, zb_not, zb_n0, zb_0, Bool.not_eq_false, Bool.not_eq_true, Bool.not_eq_true', Bool.not_eq_false', decide_eq_true_eq, decide_eq_false_iff_not, Classical.not_not] at c_18
      refine z_throw X Y (cls := "java/lang/IndexOutOfBoundsException") (text := "no such message, or word in it") (names := zENs) (by decide +kernel) (by decide +kernel) (z_gd 248 (by decide +kernel) (by decide +kernel)) (z_gd 40 (by decide +kernel) (by decide +kernel)) (List.mem_of_getElem? (i := 317) (by decide +kernel)) zat_IndexOutOfBoundsException dX8_wrong_21 dX8_wrong_24 dX8_wrong_25 dX8_wrong_27 dX8_wrong_30 (by decide) (by decide) (Nat.le_of_ble_eq_true rfl) (Nat.le_of_ble_eq_true rfl) (Nat.le_of_ble_eq_true rfl) (Nat.le_of_ble_eq_true rfl) ?_
      exact ⟨⟨0, by unfold zx_wrong; first | (rw [if_pos (by rw [hz]; exact fun q => absurd q.1 (by decide))]) | (rw [if_pos (fun q => by rw [zn_nI (by omega)] at q; rw [c_18] at q; exact absurd q.2 (by decide))]), rfl⟩, rfl, rfl⟩

def zcl (σ : zIn) (m W : Nat) (r : Int32) : Prop := (∃ k f, k < W ∧ (∀ j, j < k → σ (300 + m) j = σ (400 + m) j) ∧ σ (300 + m) k ≠ σ (400 + m) k ∧ zfst (σ (300 + m) k) (σ (400 + m) k) f ∧ r = nI (k * 5 + f)) ∨ ((∀ k, k < W → σ (300 + m) k = σ (400 + m) k) ∧ r = -1)
abbrev NX8_claim : zM := (yX8_claim, cX8_claim, 6, (some .int), 6, 1, 6, 140)
set_option maxHeartbeats 4000000 in
set_option maxRecDepth 100000 in
theorem tX8_claim {l : Launch} {D : va_G} {cy : Nat → ClassId} {z0 : zRg} {g : zSh} {σ : zIn} (hfl : l.stackTraces = false) {nm : Nat} (xq : Int32) (hS : zS g) (hG : zG g nm) (hnm : σ 1 8 = nI nm) (hL : ∀ m, m < nm → g.2.2.2.1 (300 + m) ≤ 24) (hsn : ∀ m, m < nm → ∀ k, k < g.2.2.2.1 (300 + m) → σ (300 + m) k ≠ σ (400 + m) k → zwd (σ (300 + m) k) ∧ zwd (σ (400 + m) k)) : z_Cx l D cy z0 NX8_claim [.ref (g.2.1 1), .int xq] g σ (fun v g' σ' => zx_in nm xq = 0 ∧ g' = g ∧ σ' = σ ∧ ∃ m2 r, m2 < nm ∧ xq = nI m2 ∧ v = some (.int r) ∧ zcl σ m2 (g.2.2.2.1 (300 + m2)) r) (fun E g' σ' => zXk ["java/lang/IndexOutOfBoundsException"] (zx_in nm xq) E ∧ g' = g ∧ σ' = σ) := by
  have hn60 := hG.1
  refine z_ofX hfl (by decide) (z_cr (z_ci z_c0)) (Nat.le_of_ble_eq_true rfl) ?_
  intro p e s m args below meth c X Y
  refine z_aload_n X dX8_claim_0 rfl ?_
  refine z_iload_n X dX8_claim_1 rfl ?_
  cases hz : zin xq nm
  · skip
    skip
    refine z_runV X kX8_227 (tX8_messageAtN xq hS hG hnm hz) (zso_1 hS) rfl rfl (Nat.le_of_ble_eq_true rfl) ⟨by decide, by decide⟩ ⟨by decide, by decide⟩ dX8_claim_2 ?_
    rintro _ g1 s1 ⟨rfl, h8, h9⟩
    replace h8 := h8.symm
    subst h8
    replace h9 := h9.symm
    subst h9
    refine z_astore_nN X dX8_claim_5 (by decide) ?_
    refine z_aload_nN X dX8_claim_6 rfl ?_
    refine z_ifnonnullN X dX8_claim_7 ?_
    refine z_throwW X Y (cls := "java/lang/IndexOutOfBoundsException") (text := "no such message") (names := zENs) (by decide +kernel) (by decide +kernel) (z_gd 248 (by decide +kernel) (by decide +kernel)) (z_gd 40 (by decide +kernel) (by decide +kernel)) (List.mem_of_getElem? (i := 261) (by decide +kernel)) zat_IndexOutOfBoundsException dX8_claim_10 dX8_claim_13 dX8_claim_14 dX8_claim_17 dX8_claim_20 (by decide) (by decide) (Nat.le_of_ble_eq_true rfl) (Nat.le_of_ble_eq_true rfl) (Nat.le_of_ble_eq_true rfl) (Nat.le_of_ble_eq_true rfl) ?_
    exact ⟨⟨0, by unfold zx_in; simp_all, rfl⟩, rfl, rfl⟩
  · skip
    obtain ⟨m9, hm99, rfl⟩ := zin_t hz (by have := hG.1; omega)
    have hM := hG.2.1 m9 hm99
    refine z_runV X kX8_227 (tX8_messageAt m9 hS hG hnm hm99) (zso_1 hS) rfl rfl (Nat.le_of_ble_eq_true rfl) ⟨by decide, by decide⟩ ⟨by decide, by decide⟩ dX8_claim_2 ?_
    rintro _ g1 s1 ⟨rfl, h8, h9⟩
    replace h8 := h8.symm
    subst h8
    replace h9 := h9.symm
    subst h9
    refine z_astore_n X dX8_claim_5 (by decide) ?_
    refine z_aload_n X dX8_claim_6 rfl ?_
    refine z_ifnonnull (tgt := 21) X dX8_claim_7 (by decide) ?_
    have hL24 := hL m9 hm99
    have loop_23 : ∀ (n : Nat) (k : Nat) (v1 v2 : Option Value) (hk : k ≤ g.2.2.2.1 (300 + m9)) (hall : ∀ j, j < k → σ (300 + m9) j = σ (400 + m9) j) (hn : g.2.2.2.1 (300 + m9) - k < n), z_V p l e (zRm NX8_claim) s m args below meth c 6 D cy z0 0 0 (zQx NX8_claim below D cy z0 (fun v g' σ' => zx_in nm (nI m9) = 0 ∧ g' = g ∧ σ' = σ ∧ ∃ m2 r, m2 < nm ∧ (nI m9) = nI m2 ∧ v = some (.int r) ∧ zcl σ m2 (g.2.2.2.1 (300 + m2)) r) (fun E g' σ' => zXk ["java/lang/IndexOutOfBoundsException"] (zx_in nm (nI m9)) E ∧ g' = g ∧ σ' = σ) args s) 23 [some (.ref (g.2.1 1)), some (.int (nI m9)), some (.ref (g.2.1 (200 + m9))), some (.int (nI k)), v1, v2] [] g σ := by
      intro n
      induction n with
      | zero => intro k v1 v2 hk hall hn; exact absurd hn (Nat.not_lt_zero _)
      | succ n ih_23 =>
        intro k v1 v2 hk hall hn
        refine z_iload_n X dX8_claim_23 rfl ?_
        refine z_aload_n X dX8_claim_24 rfl ?_
        refine z_getr2 X fX8_273 (hM.1) (hM.2.2.1) rfl dX8_claim_25 ?_
        refine z_alen X (t := 0) (by decide) (hM.2.2.2.2.2.1) dX8_claim_28 ?_
        refine z_icmp_ge (tgt := 71) X dX8_claim_29 (by decide) (fun c_29 => ?_) (fun c_29 => ?_)
        · skip
          try simp (disch := omega) only [zk0, nI_leI, nI_ltI, nI_eq, zbk_notn, zbk_not, zbk_n0, zbk_0, zb_0, zb_n0, zb_not, zb_notn, Bool.not_eq_false, Bool.not_eq_true, Bool.not_eq_true', Bool.not_eq_false', decide_eq_true_eq, decide_eq_false_iff_not, Classical.not_not] at c_29
          refine z_iconst (v := -1) X (by decide) dX8_claim_71 ?_
          refine z_rx ?_
          refine z_iret X (by decide) (by decide) rfl dX8_claim_72 ?_
          exact ⟨by unfold zx_in; rw [if_pos hz], rfl, rfl, m9, _, hm99, rfl, rfl, Or.inr ⟨fun j hj => hall j (by omega), rfl⟩⟩
        · skip
          try simp (disch := omega) only [zk0, nI_leI, nI_ltI, nI_eq, zbk_notn, zbk_not, zbk_n0, zbk_0, zb_0, zb_n0, zb_not, zb_notn, Bool.not_eq_false, Bool.not_eq_true, Bool.not_eq_true', Bool.not_eq_false', decide_eq_true_eq, decide_eq_false_iff_not, Classical.not_not] at c_29
          refine z_aload_n X dX8_claim_32 rfl ?_
          refine z_iload_n X dX8_claim_33 rfl ?_
          refine z_runV X kX8_289 (tX3_wordSent k hG hm99 (hL m9 hm99) (by omega)) (hM.1) rfl rfl (Nat.le_of_ble_eq_true rfl) ⟨by decide, by decide⟩ ⟨by decide, by decide⟩ dX8_claim_34 ?_
          rintro _ g1 s1 ⟨rfl, h8, h9⟩
          replace h8 := h8.symm
          subst h8
          replace h9 := h9.symm
          subst h9
          refine z_istore X dX8_claim_37 (by decide) ?_
          refine z_aload_n X dX8_claim_39 rfl ?_
          refine z_iload_n X dX8_claim_40 rfl ?_
          refine z_runV X kX8_241 (tX3_wordNow k hG hm99 (hL m9 hm99) (by omega)) (hM.1) rfl rfl (Nat.le_of_ble_eq_true rfl) ⟨by decide, by decide⟩ ⟨by decide, by decide⟩ dX8_claim_41 ?_
          rintro _ g1 s1 ⟨rfl, h8, h9⟩
          replace h8 := h8.symm
          subst h8
          replace h9 := h9.symm
          subst h9
          refine z_istore X dX8_claim_44 (by decide) ?_
          refine z_iload X dX8_claim_46 rfl ?_
          refine z_iload X dX8_claim_48 rfl ?_
          refine z_icmp_eq (tgt := 65) X dX8_claim_50 (by decide) (fun c_50 => ?_) (fun c_50 => ?_)
          · skip
            refine z_inc1 X dX8_claim_65 rfl (by decide) ?_
            refine z_goto (tgt := 23) X dX8_claim_68 (by decide) ?_
            exact ih_23 (k + 1) _ _ (by omega) (fun j hj => by rcases Nat.lt_or_ge j k with q | q; exact hall j q; (have e9 : j = k := by omega); rw [e9]; exact c_50) (by omega)
          · skip
            refine z_iload_n X dX8_claim_53 rfl ?_
            refine z_iconst (v := nI 5) X (by decide) dX8_claim_54 ?_
            refine z_imulN X dX8_claim_55 ?_
            refine z_iload X dX8_claim_56 rfl ?_
            refine z_iload X dX8_claim_58 rfl ?_
            obtain ⟨⟨W1, hW1, e1⟩, ⟨W2, hW2, e2⟩⟩ := hsn m9 hm99 k (by omega) c_50
            rw [e1, e2]
            refine z_runS X kX8_316 (tX8_firstPart W1 W2 (by omega) (by omega)) rfl rfl (Nat.le_of_ble_eq_true rfl) ⟨by decide, by decide⟩ ⟨by decide, by decide⟩ dX8_claim_60 ?_
            rintro _ g1 s1 ⟨f9, rfl, h8, h9, hf9⟩
            replace h8 := h8.symm
            subst h8
            replace h9 := h9.symm
            subst h9
            refine z_iaddN X dX8_claim_63 ?_
            refine z_rx ?_
            refine z_iret X (by decide) (by decide) rfl dX8_claim_64 ?_
            exact ⟨by unfold zx_in; rw [if_pos hz], rfl, rfl, m9, _, hm99, rfl, rfl, Or.inl ⟨k, f9, by omega, hall, c_50, by rw [e1, e2]; exact hf9, rfl⟩⟩
    refine z_iconst (v := nI 0) X (by decide) dX8_claim_21 ?_
    refine z_istore_n X dX8_claim_22 (by decide) ?_
    exact loop_23 (g.2.2.2.1 (300 + m9) - 0 + 1) 0 _ _ (by omega) (fun j hj => absurd hj (Nat.not_lt_zero _)) (by omega)

theorem zrat_or {σ : zIn} {dy : Nat → Nat} {day nu o j : Nat} (h : zrat σ dy day nu o j) : j = 18 ∨ ∃ k, k < nu ∧ j = 140 + k := by
  rcases h with ⟨k, hk, rfl, -⟩ | ⟨rfl, -⟩
  · exact Or.inr ⟨k, hk, rfl⟩
  · exact Or.inl rfl
abbrev NX8_words : zM := (yX8_words, cX8_words, 4, (some .int), 6, 1, 6, 146)
set_option maxHeartbeats 4000000 in
set_option maxRecDepth 100000 in
theorem tX8_words {l : Launch} {D : va_G} {cy : Nat → ClassId} {z0 : zRg} {g : zSh} {σ : zIn} (hfl : l.stackTraces = false) {no nu mi ni nd ne : Nat} {dy lt dd ky : Nat → Nat} (b : Bool) (xq : Int32) (hS : zS g) (hO : zO g no) (hno : σ 13 4 = nI no) (hU : zU g nu) (hnu : σ 1 7 = nI nu) (hmi : σ 1 9 = nI mi) (hmi2 : mi ≤ 1000000) (hRu : zRu σ nu dy) (hDr : zDr σ ni lt nd dd) (he : σ 2 5 = nI ne) (he2 : ne ≤ 40) (hC : ∀ k, k < ne → zwd (σ 4 k)) (hPU : ∀ p m j k, j < ne → k < ne → 1 ≤ m → m ≤ 4 → zmt (σ 5) (σ 12) j p m → zmt (σ 5) (σ 12) k p m → j = k) (hky : ∀ o, o < no → σ (100 + o) 1 = nI (ky o) ∧ ky o ≤ 39) (hRq : ∀ j, j = 18 ∨ (∃ k, k < nu ∧ j = 140 + k) → ∃ pl cd vw, zRl σ j pl cd vw) : z_Cx l D cy z0 NX8_words [.ref (g.2.1 1), .int xq, .int (zb b)] g σ (fun v g' σ' => zx_in no xq = 0 ∧ g' = g ∧ ∃ o2 j pl cd vw cdw paid many L, o2 < no ∧ xq = nI o2 ∧ zrat σ dy (mi / 1440) nu o2 j ∧ zRl σ j pl cd vw ∧ zFil σ σ' ne ni nd lt dd pl cd vw (ky o2) b cdw paid many L ∧ v = some (.int (nI paid))) (fun E g' σ' => zXk ["java/lang/IndexOutOfBoundsException"] (zx_in no xq) E ∧ g' = g ∧ σ' = σ) := by
  have hn8 := hO.1
  have hn12 := hU.1
  refine z_ofX hfl (by decide) (z_cr (z_ci (z_ci z_c0))) (Nat.le_of_ble_eq_true rfl) ?_
  intro p e s m args below meth c X Y
  refine z_aload_n X dX8_words_0 rfl ?_
  refine z_getr2 X fX8_35 (zso_1 hS) (zsr_1_3 hS) rfl dX8_words_1 ?_
  refine z_iload_n X dX8_words_4 rfl ?_
  cases hz : zin xq no
  · skip
    skip
    refine z_runV X kX8_138 (tX4_officeAtN xq hS hO hno hz) (zso_13 hS) rfl rfl (Nat.le_of_ble_eq_true rfl) ⟨by decide, by decide⟩ ⟨by decide, by decide⟩ dX8_words_5 ?_
    rintro _ g1 s1 ⟨rfl, h8, h9⟩
    replace h8 := h8.symm
    subst h8
    replace h9 := h9.symm
    subst h9
    refine z_astore_nN X dX8_words_8 (by decide) ?_
    refine z_aload_nN X dX8_words_9 rfl ?_
    refine z_ifnonnullN X dX8_words_10 ?_
    refine z_throw X Y (cls := "java/lang/IndexOutOfBoundsException") (text := "no such office") (names := zENs) (by decide +kernel) (by decide +kernel) (z_gd 248 (by decide +kernel) (by decide +kernel)) (z_gd 40 (by decide +kernel) (by decide +kernel)) (List.mem_of_getElem? (i := 410) (by decide +kernel)) zat_IndexOutOfBoundsException dX8_words_13 dX8_words_16 dX8_words_17 dX8_words_19 dX8_words_22 (by decide) (by decide) (Nat.le_of_ble_eq_true rfl) (Nat.le_of_ble_eq_true rfl) (Nat.le_of_ble_eq_true rfl) (Nat.le_of_ble_eq_true rfl) ?_
    exact ⟨⟨0, by unfold zx_in; simp_all, rfl⟩, rfl, rfl⟩
  · skip
    obtain ⟨o, ho9, rfl⟩ := zin_t hz (by have := hO.1; omega)
    have hF := hO.2.1 o ho9
    refine z_runV X kX8_138 (tX4_officeAt o hS hO hno ho9) (zso_13 hS) rfl rfl (Nat.le_of_ble_eq_true rfl) ⟨by decide, by decide⟩ ⟨by decide, by decide⟩ dX8_words_5 ?_
    rintro _ g1 s1 ⟨rfl, h8, h9⟩
    replace h8 := h8.symm
    subst h8
    replace h9 := h9.symm
    subst h9
    refine z_astore_n X dX8_words_8 (by decide) ?_
    refine z_aload_n X dX8_words_9 rfl ?_
    refine z_ifnonnull (tgt := 23) X dX8_words_10 (by decide) ?_
    refine z_aload_n X dX8_words_23 rfl ?_
    refine z_getr2 X fX8_21 (zso_1 hS) (zsr_1_1 hS) rfl dX8_words_24 ?_
    refine z_aload_n X dX8_words_27 rfl ?_
    refine z_getr2 X fX8_28 (zso_1 hS) (zsr_1_2 hS) rfl dX8_words_28 ?_
    refine z_aload_n X dX8_words_31 rfl ?_
    refine z_geti X fX8_174 (hF.1) rfl dX8_words_32 ?_
    rw [(hky o ho9).1]
    refine z_aload_n X dX8_words_35 rfl ?_
    refine z_aload_n X dX8_words_36 rfl ?_
    refine z_runV X kX8_186 (tX8_rulesAt hS hU hnu hmi hmi2 hRu hO ho9) (zso_1 hS) rfl rfl (Nat.le_of_ble_eq_true rfl) ⟨by decide, by decide⟩ ⟨by decide, by decide⟩ dX8_words_37 ?_
    rintro _ g1 s1 ⟨j9, rfl, h8, h9, hj9⟩
    replace h8 := h8.symm
    subst h8
    replace h9 := h9.symm
    subst h9
    have hj7 := zrat_ob hS hU hj9
    have hj8 : j9 = 18 ∨ 140 ≤ j9 := by rcases zrat_or hj9 with q | ⟨k, -, q⟩ <;> omega
    obtain ⟨pl, cd, vw, hRl⟩ := hRq j9 (zrat_or hj9)
    refine z_iload_n X dX8_words_40 rfl ?_
    cases b
    · skip
      skip
      refine z_runV X kX8_201 (tX6_fill0 (ky o) hS hDr hj7 hRl he he2 hC hPU (hky o ho9).2 hj8) (zso_7 hS) rfl rfl (Nat.le_of_ble_eq_true rfl) ⟨by decide, by decide⟩ ⟨by decide, by decide⟩ dX8_words_41 ?_
      rintro _ g1 s7 ⟨rfl, h8, cdw, paid, many, L9, hFl⟩
      replace h8 := h8.symm
      subst h8
      refine z_aload_n X dX8_words_44 rfl ?_
      refine z_getr2 X fX8_21 (zso_1 hS) (zsr_1_1 hS) rfl dX8_words_45 ?_
      refine z_geti X fX8_205 (zso_7 hS) rfl dX8_words_48 ?_
      refine z_rx ?_
      refine z_iret X (by decide) (by decide) rfl dX8_words_51 ?_
      exact ⟨by unfold zx_in; rw [if_pos hz], rfl, o, j9, pl, cd, vw, cdw, paid, many, L9, ho9, rfl, hj9, hRl, hFl, by rw [hFl.2.2.2.2.2.2.1]⟩
    · skip
      skip
      refine z_runV X kX8_201 (tX6_fill1 (ky o) hS hDr hj7 hRl he he2 hC hPU (hky o ho9).2 hj8) (zso_7 hS) rfl rfl (Nat.le_of_ble_eq_true rfl) ⟨by decide, by decide⟩ ⟨by decide, by decide⟩ dX8_words_41 ?_
      rintro _ g1 s7 ⟨rfl, h8, cdw, paid, many, L9, hFl⟩
      replace h8 := h8.symm
      subst h8
      refine z_aload_n X dX8_words_44 rfl ?_
      refine z_getr2 X fX8_21 (zso_1 hS) (zsr_1_1 hS) rfl dX8_words_45 ?_
      refine z_geti X fX8_205 (zso_7 hS) rfl dX8_words_48 ?_
      refine z_rx ?_
      refine z_iret X (by decide) (by decide) rfl dX8_words_51 ?_
      exact ⟨by unfold zx_in; rw [if_pos hz], rfl, o, j9, pl, cd, vw, cdw, paid, many, L9, ho9, rfl, hj9, hRl, hFl, by rw [hFl.2.2.2.2.2.2.1]⟩
