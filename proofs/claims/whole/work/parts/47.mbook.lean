/-! contracts of the reference: the book -/
theorem zin_dec (v lo hi : Int32) : decide (lo ≤ v ∧ v ≤ hi) = !decide (v < lo ∨ hi < v) := by
  rw [← decide_not]
  refine decide_eq_decide.mpr ?_
  rw [Int32.lt_iff_toInt_lt, Int32.lt_iff_toInt_lt, Int32.le_iff_toInt_le, Int32.le_iff_toInt_le]
  constructor <;> intro h <;> omega
theorem tX9_inN {l : Launch} {D : va_G} {cy : Nat → ClassId} {z0 : Nat} {g : zSh} {σ : zIn} (v lo hi : Int32) : z_Ct l D cy z0 MX9_in [.int v, .int lo, .int hi] g σ (zI (zb (!decide (v < lo ∨ hi < v))) g σ) := by
  rw [← zin_dec]; exact tX9_in v lo hi
theorem z_up_up {σ : zIn} {i k : Nat} {v w : Int32} : z_up (z_up σ i k v) i k w = z_up σ i k w := by
  funext i' k'
  rw [z_up_app, z_up_app, z_up_app]
  by_cases e : i' = i
  · by_cases e2 : k' = k
    · simp [e, e2]
    · simp [e, e2]
  · simp [e]
theorem znd_t {P : Prop} [Decidable P] (h : true = !decide P) : ¬ P := by
  intro q; rw [decide_eq_true q] at h; exact absurd h (by decide)
theorem znd_f {P : Prop} [Decidable P] (h : false = !decide P) : P := by
  by_cases q : P
  · exact q
  · rw [decide_eq_false q] at h; exact absurd h (by decide)
/-- what a call of the reference leaves: it refuses with k, or it answers -/
def zMP (k : Nat) (σ σ' : zIn) (ok : Prop) : Prop := (k ≠ 0 ∧ σ' = z_up σ 21 48 (nI k)) ∨ (k = 0 ∧ ok)
theorem zMP_1 {k j : Nat} {σ : zIn} {v : Int32} {ok : Prop} (h : k = j + 1) (hv : v = nI (j + 1)) : zMP k σ (z_up σ 21 48 v) ok := Or.inl ⟨by omega, by rw [h, hv]⟩
theorem zMP_2 {k j : Nat} {σ : zIn} {v w : Int32} {ok : Prop} (h : k = j + 1) (hv : v = nI (j + 1)) : zMP k σ (z_up (z_up σ 21 48 w) 21 48 v) ok := Or.inl ⟨by omega, by rw [h, hv, z_up_up]⟩
theorem zw_dec {w : Int32} : zin w 11881376 = !decide (w < 0 ∨ 11881375 < w) := (zoutc 11881376 (c := 11881375) (by decide)).symm ▸ by simp
theorem tX9_isWordN {l : Launch} {D : va_G} {cy : Nat → ClassId} {z0 : Nat} {g : zSh} {σ : zIn} (w : Int32) : z_Ct l D cy z0 MX9_isWord [.int w] g σ (zI (zb (!decide (w < 0 ∨ 11881375 < w))) g σ) := by
  rw [← zw_dec]; exact tX9_isWord w
theorem zpk_comm (w v : Int32) : ∀ k, zpk w v k = zpk v w k
  | 0 => rfl
  | k + 1 => by
    unfold zpk
    rw [zpk_comm w v k]
    by_cases e : zl w k = zl v k
    · rw [if_pos e, if_pos e.symm]
    · rw [if_neg e, if_neg (fun q => e q.symm)]
theorem zp_comm (w v : Int32) : zp w v = zp v w := zpk_comm w v 5
theorem zt_comm {w v : Int32} (h : zt w v) : zt v w := by
  obtain ⟨h1, k, hk, h2, h3, h4⟩ := h
  exact ⟨by rw [zp_comm]; exact h1, k, hk, h3.symm, h2.symm, fun q => h4 q.symm⟩
theorem zP_eq {C : Nat → Int32} {n k : Nat} {w : Int32} (h : ∃ j, j < n ∧ C j = w) : zP C n w k ↔ C k = w := by
  obtain ⟨j, hj, e⟩ := h
  constructor
  · intro q
    rcases q with q | ⟨q, -⟩
    · exact q
    · exact absurd e (q j hj)
  · exact Or.inl
theorem zP_ne {C : Nat → Int32} {n k : Nat} {w : Int32} (hk : k < n) (h : ∀ j, j < n → C j ≠ w) : zP C n w k ↔ (zp (C k) w = 1 ∨ zt (C k) w) := by
  constructor
  · intro q
    rcases q with q | ⟨-, q | q⟩
    · exact absurd q (h k hk)
    · exact Or.inl (by rw [zp_comm]; exact q)
    · exact Or.inr (zt_comm q)
  · intro q
    refine Or.inr ⟨h, ?_⟩
    rcases q with q | q
    · exact Or.inl (by rw [zp_comm]; exact q)
    · exact Or.inr (zt_comm q)
set_option maxHeartbeats 4000000 in
set_option maxRecDepth 100000 in
theorem tX9_idea {l : Launch} {D : va_G} {cy : Nat → ClassId} {z0 : Nat} {g : zSh} {σ : zIn} {ni : Nat} (x : Int32) (hS : zS g) (hi : σ 21 0 = nI ni) (hi2 : ni ≤ 30) : z_Ct l D cy z0 MX9_idea [.ref (g.2.1 21), .int x] g σ (fun v g' σ' => g' = g ∧ ∃ r, v = some (.int r) ∧ zMP (zx_idea ni x) σ σ' (r = nI ni ∧ σ' = z_up (z_up (z_up σ 21 48 0) 22 ni x) 21 0 (nI (ni + 1)))) := by
  refine z_ofM (by decide) (z_cr (z_ci z_c0)) (Nat.le_of_ble_eq_true rfl) ?_
  intro p e s m args below meth c X
  refine z_aload_n X dX9_idea_0 rfl ?_
  refine z_iload_n X dX9_idea_1 rfl ?_
  refine z_iconst (v := 1) X (by decide) dX9_idea_2 ?_
  refine z_bipush (v := 20) X (by decide) dX9_idea_3 ?_
  refine z_runS X kX9_129 (tX9_inN _ _ _) rfl rfl (Nat.le_of_ble_eq_true rfl) ⟨by decide, by decide⟩ ⟨by decide, by decide⟩ dX9_idea_5 ?_
  rintro _ g1 s1 ⟨rfl, h8, h9⟩
  replace h8 := h8.symm
  subst h8
  replace h9 := h9.symm
  subst h9
  obtain ⟨b8, hb8⟩ : ∃ q : Bool, q = (!decide (x < 1 ∨ 20 < x)) := ⟨_, rfl⟩
  rw [← hb8]
  cases b8
  · skip
    skip
    refine z_runV X kX9_150 (tX9_asks false hS) (zso_21 hS) rfl rfl (Nat.le_of_ble_eq_true rfl) ⟨by decide, by decide⟩ ⟨by decide, by decide⟩ dX9_idea_8 ?_
    rintro _ g1 s1 ⟨rfl, h8, h9⟩
    replace h8 := h8.symm
    subst h8
    replace h9 := h9.symm
    subst h9
    refine z_if_ne (tgt := 16) X dX9_idea_11 (by decide) (fun c_11 => ?_) (fun c_11 => ?_)
    · exact absurd rfl c_11
    · skip
      refine z_iconst (v := 0) X (by decide) dX9_idea_14 ?_
      refine z_iret X (by decide) (by decide) rfl dX9_idea_15 ?_
      exact ⟨rfl, _, rfl, zMP_1 (j := 0) (by unfold zx_idea; rw [if_pos (znd_f hb8)]) rfl⟩
  · skip
    skip
    refine z_runV X kX9_150 (tX9_asks true hS) (zso_21 hS) rfl rfl (Nat.le_of_ble_eq_true rfl) ⟨by decide, by decide⟩ ⟨by decide, by decide⟩ dX9_idea_8 ?_
    rintro _ g1 s1 ⟨rfl, h8, h9⟩
    replace h8 := h8.symm
    subst h8
    replace h9 := h9.symm
    subst h9
    refine z_if_ne (tgt := 16) X dX9_idea_11 (by decide) (fun c_11 => ?_) (fun c_11 => ?_)
    · skip
      refine z_aload_n X dX9_idea_16 rfl ?_
      refine z_geti X fX9_126 (zso_21 hS) rfl dX9_idea_17 ?_
      rw [z_up_app, if_pos rfl, if_neg (by decide), hi]
      refine z_bipush (v := nI 30) X (by decide) dX9_idea_20 ?_
      refine z_icmp_ne (tgt := 31) X dX9_idea_22 (by decide) (fun c_22 => ?_) (fun c_22 => ?_)
      · skip
        try simp (disch := omega) only [zk0, nI_leI, nI_ltI, nI_eq, zbk_notn, zbk_not, zbk_n0, zbk_0, zb_0, zb_n0, zb_not, zb_notn, Bool.not_eq_false, Bool.not_eq_true, Bool.not_eq_true', Bool.not_eq_false', decide_eq_true_eq, decide_eq_false_iff_not, Classical.not_not] at c_22
        refine z_aload_n X dX9_idea_31 rfl ?_
        refine z_getr2 X fX9_7 (zso_21 hS) (zsr_21_1 hS) rfl dX9_idea_32 ?_
        refine z_aload_n X dX9_idea_35 rfl ?_
        refine z_geti X fX9_126 (zso_21 hS) rfl dX9_idea_36 ?_
        rw [z_up_app, if_pos rfl, if_neg (by decide), hi]
        refine z_iload_n X dX9_idea_39 rfl ?_
        refine z_iastN X (zsa_22 hS) (by omega) (by omega) dX9_idea_40 ?_
        refine z_aload_n X dX9_idea_41 rfl ?_
        refine z_dup X rfl dX9_idea_42 ?_
        refine z_geti X fX9_126 (zso_21 hS) rfl dX9_idea_43 ?_
        rw [z_up_ne (by decide), z_up_app, if_pos rfl, if_neg (by decide), hi]
        refine z_iconst (v := nI 1) X (by decide) dX9_idea_46 ?_
        refine z_iaddN X dX9_idea_47 ?_
        refine z_puti X fX9_126 (zso_21 hS) rfl dX9_idea_48 ?_
        refine z_aload_n X dX9_idea_51 rfl ?_
        refine z_geti X fX9_126 (zso_21 hS) rfl dX9_idea_52 ?_
        rw [z_up_app, if_pos rfl, if_pos rfl]
        refine z_iconst (v := nI 1) X (by decide) dX9_idea_55 ?_
        refine z_isubN X (by omega) dX9_idea_56 ?_
        refine z_iret X (by decide) (by decide) rfl dX9_idea_57 ?_
        exact ⟨rfl, _, rfl, Or.inr ⟨by unfold zx_idea; rw [if_neg (znd_t hb8), if_neg (by omega)], rfl, rfl⟩⟩
      · skip
        try simp (disch := omega) only [zk0, nI_leI, nI_ltI, nI_eq, zbk_notn, zbk_not, zbk_n0, zbk_0, zb_0, zb_n0, zb_not, zb_notn, Bool.not_eq_false, Bool.not_eq_true, Bool.not_eq_true', Bool.not_eq_false', decide_eq_true_eq, decide_eq_false_iff_not, Classical.not_not] at c_22
        refine z_aload_n X dX9_idea_25 rfl ?_
        refine z_iconst (v := 2) X (by decide) dX9_idea_26 ?_
        refine z_runV X kX9_154 (tX9_fails _ hS) (zso_21 hS) rfl rfl (Nat.le_of_ble_eq_true rfl) ⟨by decide, by decide⟩ ⟨by decide, by decide⟩ dX9_idea_27 ?_
        rintro _ g1 s1 ⟨rfl, h8, h9⟩
        replace h8 := h8.symm
        subst h8
        replace h9 := h9.symm
        subst h9
        refine z_iret X (by decide) (by decide) rfl dX9_idea_30 ?_
        exact ⟨rfl, _, rfl, zMP_2 (j := 1) (by unfold zx_idea; rw [if_neg (znd_t hb8), if_pos (by omega)]) rfl⟩
    · exact absurd c_11 (by decide)

set_option maxHeartbeats 4000000 in
set_option maxRecDepth 100000 in
theorem tX9_isInBook {l : Launch} {D : va_G} {cy : Nat → ClassId} {z0 : Nat} {g : zSh} {σ : zIn} {ne : Nat} (w : Int32) (hS : zS g) (he : σ 21 2 = nI ne) (he2 : ne ≤ 40) : z_Ct l D cy z0 MX9_isInBook [.ref (g.2.1 21), .int w] g σ (fun v g' σ' => ∃ t : Bool, v = some (.int (zb t)) ∧ g' = g ∧ σ' = σ ∧ (t = true ↔ ∃ k, k < ne ∧ σ 23 k = w)) := by
  refine z_ofM (by decide) (z_cr (z_ci z_c0)) (Nat.le_of_ble_eq_true rfl) ?_
  intro p e s m args below meth c X
  have loop_4 : ∀ (n : Nat) (k : Nat) (t : Bool) (hk : k ≤ ne) (ht : t = true ↔ ∃ j, j < k ∧ σ 23 j = w) (hn : ne - k < n), z_V p l e (zRm MX9_isInBook) s m args below meth c 4 D cy z0 0 0 (zQm MX9_isInBook below D cy z0 (fun v g' σ' => ∃ t : Bool, v = some (.int (zb t)) ∧ g' = g ∧ σ' = σ ∧ (t = true ↔ ∃ k, k < ne ∧ σ 23 k = w)) args s) 4 [some (.ref (g.2.1 21)), some (.int w), some (.int (zb t)), some (.int (nI k))] [] g σ := by
    intro n
    induction n with
    | zero => intro k t hk ht hn; exact absurd hn (Nat.not_lt_zero _)
    | succ n ih_4 =>
      intro k t hk ht hn
      refine z_iload_n X dX9_isInBook_4 rfl ?_
      refine z_aload_n X dX9_isInBook_5 rfl ?_
      refine z_geti X fX9_168 (zso_21 hS) rfl dX9_isInBook_6 ?_
      rw [he]
      refine z_icmp_ge (tgt := 38) X dX9_isInBook_9 (by decide) (fun c_9 => ?_) (fun c_9 => ?_)
      · skip
        try simp (disch := omega) only [zk0, nI_leI, nI_ltI, nI_eq, zbk_notn, zbk_not, zbk_n0, zbk_0, zb_0, zb_n0, zb_not, zb_notn, Bool.not_eq_false, Bool.not_eq_true, Bool.not_eq_true', Bool.not_eq_false', decide_eq_true_eq, decide_eq_false_iff_not, Classical.not_not] at c_9
        refine z_iload_n X dX9_isInBook_38 rfl ?_
        refine z_zret X (by decide) (by decide) rfl (by first | exact Or.inl rfl | exact Or.inr rfl | exact zb_01 _ | assumption) dX9_isInBook_39 ?_
        have e : k = ne := by omega
        subst e
        exact ⟨t, rfl, rfl, rfl, ht⟩
      · skip
        try simp (disch := omega) only [zk0, nI_leI, nI_ltI, nI_eq, zbk_notn, zbk_not, zbk_n0, zbk_0, zb_0, zb_n0, zb_not, zb_notn, Bool.not_eq_false, Bool.not_eq_true, Bool.not_eq_true', Bool.not_eq_false', decide_eq_true_eq, decide_eq_false_iff_not, Classical.not_not] at c_9
        refine z_iload_n X dX9_isInBook_12 rfl ?_
        refine z_if_ne (tgt := 26) X dX9_isInBook_13 (by decide) (fun c_13 => ?_) (fun c_13 => ?_)
        · skip
          try simp (disch := omega) only [zb_notn, zb_not, zb_n0, zb_0, Bool.not_eq_false, Bool.not_eq_true, Bool.not_eq_true', Bool.not_eq_false', decide_eq_true_eq, decide_eq_false_iff_not, Classical.not_not] at c_13
          refine z_iconst (v := nI 1) X (by decide) dX9_isInBook_26 ?_
          refine z_goto (tgt := 31) X dX9_isInBook_27 (by decide) ?_
          refine z_istore_n X dX9_isInBook_31 (by decide) ?_
          refine z_inc1 X dX9_isInBook_32 rfl (by decide) ?_
          refine z_goto (tgt := 4) X dX9_isInBook_35 (by decide) ?_
          first
          | exact ih_4 (k + 1) true (by omega) (by constructor; intro _; (first | exact ⟨k, by omega, c_23⟩ | (obtain ⟨j, hj, q⟩ := ht.mp c_13; exact ⟨j, by omega, q⟩)); intro _; rfl) (by omega)
          | exact ih_4 (k + 1) false (by omega) (by constructor; intro q; exact absurd q (by decide); rintro ⟨j, hj, q⟩; exfalso; rcases Nat.lt_or_ge j k with h | h; exact absurd (ht.mpr ⟨j, h, q⟩) (by rw [c_13]; decide); (have e : j = k := by omega); rw [e] at q; exact c_23 q) (by omega)
        · skip
          try simp (disch := omega) only [zb_notn, zb_not, zb_n0, zb_0, Bool.not_eq_false, Bool.not_eq_true, Bool.not_eq_true', Bool.not_eq_false', decide_eq_true_eq, decide_eq_false_iff_not, Classical.not_not] at c_13
          refine z_aload_n X dX9_isInBook_16 rfl ?_
          refine z_getr2 X fX9_13 (zso_21 hS) (zsr_21_3 hS) rfl dX9_isInBook_17 ?_
          refine z_iload_n X dX9_isInBook_20 rfl ?_
          refine z_ialdN X (zsa_23 hS) (by omega) (by omega) dX9_isInBook_21 ?_
          refine z_iload_n X dX9_isInBook_22 rfl ?_
          refine z_icmp_ne (tgt := 30) X dX9_isInBook_23 (by decide) (fun c_23 => ?_) (fun c_23 => ?_)
          · skip
            refine z_iconst (v := nI 0) X (by decide) dX9_isInBook_30 ?_
            refine z_istore_n X dX9_isInBook_31 (by decide) ?_
            refine z_inc1 X dX9_isInBook_32 rfl (by decide) ?_
            refine z_goto (tgt := 4) X dX9_isInBook_35 (by decide) ?_
            first
            | exact ih_4 (k + 1) true (by omega) (by constructor; intro _; (first | exact ⟨k, by omega, c_23⟩ | (obtain ⟨j, hj, q⟩ := ht.mp c_13; exact ⟨j, by omega, q⟩)); intro _; rfl) (by omega)
            | exact ih_4 (k + 1) false (by omega) (by constructor; intro q; exact absurd q (by decide); rintro ⟨j, hj, q⟩; exfalso; rcases Nat.lt_or_ge j k with h | h; exact absurd (ht.mpr ⟨j, h, q⟩) (by rw [c_13]; decide); (have e : j = k := by omega); rw [e] at q; exact c_23 q) (by omega)
          · skip
            refine z_iconst (v := nI 1) X (by decide) dX9_isInBook_26 ?_
            refine z_goto (tgt := 31) X dX9_isInBook_27 (by decide) ?_
            refine z_istore_n X dX9_isInBook_31 (by decide) ?_
            refine z_inc1 X dX9_isInBook_32 rfl (by decide) ?_
            refine z_goto (tgt := 4) X dX9_isInBook_35 (by decide) ?_
            first
            | exact ih_4 (k + 1) true (by omega) (by constructor; intro _; (first | exact ⟨k, by omega, c_23⟩ | (obtain ⟨j, hj, q⟩ := ht.mp c_13; exact ⟨j, by omega, q⟩)); intro _; rfl) (by omega)
            | exact ih_4 (k + 1) false (by omega) (by constructor; intro q; exact absurd q (by decide); rintro ⟨j, hj, q⟩; exfalso; rcases Nat.lt_or_ge j k with h | h; exact absurd (ht.mpr ⟨j, h, q⟩) (by rw [c_13]; decide); (have e : j = k := by omega); rw [e] at q; exact c_23 q) (by omega)
  refine z_iconst (v := nI 0) X (by decide) dX9_isInBook_0 ?_
  refine z_istore_n X dX9_isInBook_1 (by decide) ?_
  refine z_iconst (v := nI 0) X (by decide) dX9_isInBook_2 ?_
  refine z_istore_n X dX9_isInBook_3 (by decide) ?_
  exact loop_4 (ne - 0 + 1) 0 false (Nat.zero_le _) (by constructor; intro q; exact absurd q (by decide); rintro ⟨j, hj, -⟩; exact absurd hj (Nat.not_lt_zero _)) (by omega)

def zca (C : Nat → Int32) (ne : Nat) (w : Int32) (j : Nat) (r : Int32) : Prop := (zcnt (zP C ne w) ne ≤ j ∧ r = -1) ∨ ∃ k, k < ne ∧ zP C ne w k ∧ j = zcnt (zP C ne w) k ∧ r = nI k
theorem zsub_0 {a b : Int32} : a - b = 0 ↔ a = b := by
  constructor
  · intro h
    have h2 := congrArg (fun q => q + b) h
    simp only [Int32.sub_add_cancel, Int32.zero_add] at h2
    exact h2
  · rintro rfl; exact Int32.sub_self _
theorem zsub_m1 {j c : Nat} : nI j - nI c + (-1) = nI j - nI (c + 1) := by
  rw [show nI (c + 1) = nI c + 1 from (nI_1 c).symm]
  simp only [Int32.sub_eq_add_neg, Int32.neg_add, Int32.add_assoc]
set_option maxHeartbeats 4000000 in
set_option maxRecDepth 100000 in
theorem tX9_candidateAt {l : Launch} {D : va_G} {cy : Nat → ClassId} {z0 : Nat} {g : zSh} {σ : zIn} {ne : Nat} (W j : Nat) (hS : zS g) (he : σ 21 2 = nI ne) (he2 : ne ≤ 40) (hC : ∀ k, k < ne → zwd (σ 23 k)) (hW : W < 11881376) (hj : j < 2 ^ 31) : z_Ct l D cy z0 MX9_candidateAt [.ref (g.2.1 21), .int (nI W), .int (nI j)] g σ (fun v g' σ' => ∃ r, v = some (.int r) ∧ g' = g ∧ σ' = σ ∧ zca (σ 23) ne (nI W) j r) := by
  refine z_ofM (by decide) (z_cr (z_ci (z_ci z_c0))) (Nat.le_of_ble_eq_true rfl) ?_
  intro p e s m args below meth c X
  refine z_aload_n X dX9_candidateAt_0 rfl ?_
  refine z_iload_n X dX9_candidateAt_1 rfl ?_
  refine z_runV X kX9_171 (tX9_isInBook _ hS he he2) (zso_21 hS) rfl rfl (Nat.le_of_ble_eq_true rfl) ⟨by decide, by decide⟩ ⟨by decide, by decide⟩ dX9_candidateAt_2 ?_
  rintro _ g1 s1 ⟨t, rfl, h8, h9, ht⟩
  replace h8 := h8.symm
  subst h8
  replace h9 := h9.symm
  subst h9
  refine z_istore_n X dX9_candidateAt_5 (by decide) ?_
  refine z_iload_n X dX9_candidateAt_6 rfl ?_
  refine z_istore X dX9_candidateAt_7 (by decide) ?_
  refine z_iconst (v := -1) X (by decide) dX9_candidateAt_9 ?_
  refine z_istore X dX9_candidateAt_10 (by decide) ?_
  have loop_15 : ∀ (n : Nat) (k : Nat) (fd : Int32) (v7 : Option Value) (hk : k ≤ ne) (hfd : (zcnt (zP (σ 23) ne (nI W)) k ≤ j ∧ fd = -1) ∨ ∃ q, q < k ∧ (zP (σ 23) ne (nI W)) q ∧ j = zcnt (zP (σ 23) ne (nI W)) q ∧ fd = nI q) (hn : ne - k < n), z_V p l e (zRm MX9_candidateAt) s m args below meth c 8 D cy z0 0 0 (zQm MX9_candidateAt below D cy z0 (fun v g' σ' => ∃ r, v = some (.int r) ∧ g' = g ∧ σ' = σ ∧ zca (σ 23) ne (nI W) j r) args s) 15 [some (.ref (g.2.1 21)), some (.int (nI W)), some (.int (nI j)), some (.int (zb t)), some (.int (nI j - nI (zcnt (zP (σ 23) ne (nI W)) k))), some (.int fd), some (.int (nI k)), v7] [] g σ := by
    intro n
    induction n with
    | zero => intro k fd v7 hk hfd hn; exact absurd hn (Nat.not_lt_zero _)
    | succ n ih_15 =>
      intro k fd v7 hk hfd hn
      refine z_iload X dX9_candidateAt_15 rfl ?_
      refine z_aload_n X dX9_candidateAt_17 rfl ?_
      refine z_geti X fX9_168 (zso_21 hS) rfl dX9_candidateAt_18 ?_
      rw [he]
      refine z_icmp_ge (tgt := 111) X dX9_candidateAt_21 (by decide) (fun c_21 => ?_) (fun c_21 => ?_)
      · skip
        try simp (disch := omega) only [zk0, nI_leI, nI_ltI, nI_eq, zbk_notn, zbk_not, zbk_n0, zbk_0, zb_0, zb_n0, zb_not, zb_notn, Bool.not_eq_false, Bool.not_eq_true, Bool.not_eq_true', Bool.not_eq_false', decide_eq_true_eq, decide_eq_false_iff_not, Classical.not_not] at c_21
        refine z_iload X dX9_candidateAt_111 rfl ?_
        refine z_iret X (by decide) (by decide) rfl dX9_candidateAt_113 ?_
        have e : k = ne := by omega
        subst e
        exact ⟨_, rfl, rfl, rfl, hfd⟩
      · skip
        try simp (disch := omega) only [zk0, nI_leI, nI_ltI, nI_eq, zbk_notn, zbk_not, zbk_n0, zbk_0, zb_0, zb_n0, zb_not, zb_notn, Bool.not_eq_false, Bool.not_eq_true, Bool.not_eq_true', Bool.not_eq_false', decide_eq_true_eq, decide_eq_false_iff_not, Classical.not_not] at c_21
        refine z_iload_n X dX9_candidateAt_24 rfl ?_
        refine z_if_eq (tgt := 47) X dX9_candidateAt_25 (by decide) (fun c_25 => ?_) (fun c_25 => ?_)
        · skip
          try simp (disch := omega) only [zb_notn, zb_not, zb_n0, zb_0, Bool.not_eq_false, Bool.not_eq_true, Bool.not_eq_true', Bool.not_eq_false', decide_eq_true_eq, decide_eq_false_iff_not, Classical.not_not] at c_25
          have hkn : k < ne := by omega
          have htn : ∀ q, q < ne → σ 23 q ≠ nI W := fun q hq e => absurd (ht.mpr ⟨q, hq, e⟩) (by rw [c_25]; decide)
          obtain ⟨Ck, hCk, eC⟩ := hC k hkn
          refine z_aload_n X dX9_candidateAt_47 rfl ?_
          refine z_getr2 X fX9_13 (zso_21 hS) (zsr_21_3 hS) rfl dX9_candidateAt_48 ?_
          refine z_iload X dX9_candidateAt_51 rfl ?_
          refine z_ialdN X (zsa_23 hS) (by omega) (by omega) dX9_candidateAt_53 ?_
          rw [eC]
          refine z_iload_n X dX9_candidateAt_54 rfl ?_
          refine z_runS X kX9_147 (tX9_parts _ _ (by omega) (by omega)) rfl rfl (Nat.le_of_ble_eq_true rfl) ⟨by decide, by decide⟩ ⟨by decide, by decide⟩ dX9_candidateAt_55 ?_
          rintro _ g1 s1 ⟨rfl, h8, h9⟩
          replace h8 := h8.symm
          subst h8
          replace h9 := h9.symm
          subst h9
          refine z_iconst (v := nI 1) X (by decide) dX9_candidateAt_58 ?_
          have hz5 := zpk_le (nI Ck) (nI W) 5
          replace hz5 : zp (nI Ck) (nI W) ≤ 5 := hz5
          refine z_icmp_eq (tgt := 76) X dX9_candidateAt_59 (by decide) (fun c_59 => ?_) (fun c_59 => ?_)
          · skip
            try simp (disch := omega) only [zk0, nI_leI, nI_ltI, nI_eq, zbk_notn, zbk_not, zbk_n0, zbk_0, zb_0, zb_n0, zb_not, zb_notn, Bool.not_eq_false, Bool.not_eq_true, Bool.not_eq_true', Bool.not_eq_false', decide_eq_true_eq, decide_eq_false_iff_not, Classical.not_not] at c_59
            have hPk : (zP (σ 23) ne (nI W)) k := (zP_ne hkn htn).mpr (by rw [eC]; first | exact Or.inl c_59 | exact Or.inr (ht9.mp c_73))
            refine z_iconst (v := nI 1) X (by decide) dX9_candidateAt_76 ?_
            refine z_goto (tgt := 81) X dX9_candidateAt_77 (by decide) ?_
            refine z_istore X dX9_candidateAt_81 (by decide) ?_
            refine z_iload X dX9_candidateAt_83 rfl ?_
            refine z_if_eq (tgt := 105) X dX9_candidateAt_85 (by decide) (fun c_85 => ?_) (fun c_85 => ?_)
            · first | exact absurd c_85 (by decide) | exact absurd (by decide) c_85
            · skip
              refine z_iload X dX9_candidateAt_88 rfl ?_
              have hc90 := zsub_0 (a := nI j) (b := nI (zcnt (zP (σ 23) ne (nI W)) k))
              rw [nI_eq (by omega) (Nat.lt_of_le_of_lt (zcnt_le _ k) (by omega))] at hc90
              refine z_if_ne (tgt := 98) X dX9_candidateAt_90 (by decide) (fun c_90 => ?_) (fun c_90 => ?_)
              · skip
                refine z_iload X dX9_candidateAt_98 rfl ?_
                refine z_istore X dX9_candidateAt_100 (by decide) ?_
                refine z_iinc (v := -1) X dX9_candidateAt_102 rfl (by decide) (by decide) ?_
                refine z_inc1 X dX9_candidateAt_105 rfl (by decide) ?_
                refine z_goto (tgt := 15) X dX9_candidateAt_108 (by decide) ?_
                first
                | (have e9 := fun f v h => ih_15 (k + 1) f v (by omega) h (by omega); rw [zcnt_n hPn] at e9; exact e9 _ _ (by rcases hfd with q | ⟨q, h1, h2⟩; exact Or.inl q; exact Or.inr ⟨q, by omega, h2⟩))
                | (have e9 := fun f v h => ih_15 (k + 1) f v (by omega) h (by omega); rw [zcnt_y hPk] at e9; rw [show nI j - nI (zcnt (zP (σ 23) ne (nI W)) k) + (-1) = nI j - nI (zcnt (zP (σ 23) ne (nI W)) k + 1) from zsub_m1] ; refine e9 _ _ ?_; first | exact Or.inr ⟨k, by omega, hPk, hc90.mp c_90, rfl⟩ | (rcases hfd with ⟨q1, q2⟩ | ⟨q, h1, h2⟩; exact Or.inl ⟨by have h9 : j ≠ zcnt (zP (σ 23) ne (nI W)) k := fun e => c_90 (hc90.mpr e); omega, q2⟩; exact Or.inr ⟨q, by omega, h2⟩))
              · skip
                refine z_iload X dX9_candidateAt_93 rfl ?_
                refine z_goto (tgt := 100) X dX9_candidateAt_95 (by decide) ?_
                refine z_istore X dX9_candidateAt_100 (by decide) ?_
                refine z_iinc (v := -1) X dX9_candidateAt_102 rfl (by decide) (by decide) ?_
                refine z_inc1 X dX9_candidateAt_105 rfl (by decide) ?_
                refine z_goto (tgt := 15) X dX9_candidateAt_108 (by decide) ?_
                first
                | (have e9 := fun f v h => ih_15 (k + 1) f v (by omega) h (by omega); rw [zcnt_n hPn] at e9; exact e9 _ _ (by rcases hfd with q | ⟨q, h1, h2⟩; exact Or.inl q; exact Or.inr ⟨q, by omega, h2⟩))
                | (have e9 := fun f v h => ih_15 (k + 1) f v (by omega) h (by omega); rw [zcnt_y hPk] at e9; rw [show nI j - nI (zcnt (zP (σ 23) ne (nI W)) k) + (-1) = nI j - nI (zcnt (zP (σ 23) ne (nI W)) k + 1) from zsub_m1] ; refine e9 _ _ ?_; first | exact Or.inr ⟨k, by omega, hPk, hc90.mp c_90, rfl⟩ | (rcases hfd with ⟨q1, q2⟩ | ⟨q, h1, h2⟩; exact Or.inl ⟨by have h9 : j ≠ zcnt (zP (σ 23) ne (nI W)) k := fun e => c_90 (hc90.mpr e); omega, q2⟩; exact Or.inr ⟨q, by omega, h2⟩))
          · skip
            try simp (disch := omega) only [zk0, nI_leI, nI_ltI, nI_eq, zbk_notn, zbk_not, zbk_n0, zbk_0, zb_0, zb_n0, zb_not, zb_notn, Bool.not_eq_false, Bool.not_eq_true, Bool.not_eq_true', Bool.not_eq_false', decide_eq_true_eq, decide_eq_false_iff_not, Classical.not_not] at c_59
            refine z_aload_n X dX9_candidateAt_62 rfl ?_
            refine z_getr2 X fX9_13 (zso_21 hS) (zsr_21_3 hS) rfl dX9_candidateAt_63 ?_
            refine z_iload X dX9_candidateAt_66 rfl ?_
            refine z_ialdN X (zsa_23 hS) (by omega) (by omega) dX9_candidateAt_68 ?_
            rw [eC]
            refine z_iload_n X dX9_candidateAt_69 rfl ?_
            refine z_runS X kX9_174 (tX9_isTurned _ _ (by omega) (by omega)) rfl rfl (Nat.le_of_ble_eq_true rfl) ⟨by decide, by decide⟩ ⟨by decide, by decide⟩ dX9_candidateAt_70 ?_
            rintro _ g1 s1 ⟨t9, rfl, h8, h9, ht9⟩
            replace h8 := h8.symm
            subst h8
            replace h9 := h9.symm
            subst h9
            refine z_if_eq (tgt := 80) X dX9_candidateAt_73 (by decide) (fun c_73 => ?_) (fun c_73 => ?_)
            · skip
              try simp (disch := omega) only [zb_notn, zb_not, zb_n0, zb_0, Bool.not_eq_false, Bool.not_eq_true, Bool.not_eq_true', Bool.not_eq_false', decide_eq_true_eq, decide_eq_false_iff_not, Classical.not_not] at c_73
              have hPn : ¬ (zP (σ 23) ne (nI W)) k := fun q => by have q2 := (zP_ne hkn htn).mp q; rw [eC] at q2; exact q2.elim c_59 (fun q3 => absurd (ht9.mpr q3) (by rw [c_73]; decide))
              refine z_iconst (v := nI 0) X (by decide) dX9_candidateAt_80 ?_
              refine z_istore X dX9_candidateAt_81 (by decide) ?_
              refine z_iload X dX9_candidateAt_83 rfl ?_
              refine z_if_eq (tgt := 105) X dX9_candidateAt_85 (by decide) (fun c_85 => ?_) (fun c_85 => ?_)
              · skip
                refine z_inc1 X dX9_candidateAt_105 rfl (by decide) ?_
                refine z_goto (tgt := 15) X dX9_candidateAt_108 (by decide) ?_
                first
                | (have e9 := fun f v h => ih_15 (k + 1) f v (by omega) h (by omega); rw [zcnt_n hPn] at e9; exact e9 _ _ (by rcases hfd with q | ⟨q, h1, h2⟩; exact Or.inl q; exact Or.inr ⟨q, by omega, h2⟩))
                | (have e9 := fun f v h => ih_15 (k + 1) f v (by omega) h (by omega); rw [zcnt_y hPk] at e9; rw [show nI j - nI (zcnt (zP (σ 23) ne (nI W)) k) + (-1) = nI j - nI (zcnt (zP (σ 23) ne (nI W)) k + 1) from zsub_m1] ; refine e9 _ _ ?_; first | exact Or.inr ⟨k, by omega, hPk, hc90.mp c_90, rfl⟩ | (rcases hfd with ⟨q1, q2⟩ | ⟨q, h1, h2⟩; exact Or.inl ⟨by have h9 : j ≠ zcnt (zP (σ 23) ne (nI W)) k := fun e => c_90 (hc90.mpr e); omega, q2⟩; exact Or.inr ⟨q, by omega, h2⟩))
              · first | exact absurd c_85 (by decide) | exact absurd (by decide) c_85
            · skip
              try simp (disch := omega) only [zb_notn, zb_not, zb_n0, zb_0, Bool.not_eq_false, Bool.not_eq_true, Bool.not_eq_true', Bool.not_eq_false', decide_eq_true_eq, decide_eq_false_iff_not, Classical.not_not] at c_73
              have hPk : (zP (σ 23) ne (nI W)) k := (zP_ne hkn htn).mpr (by rw [eC]; first | exact Or.inl c_59 | exact Or.inr (ht9.mp c_73))
              refine z_iconst (v := nI 1) X (by decide) dX9_candidateAt_76 ?_
              refine z_goto (tgt := 81) X dX9_candidateAt_77 (by decide) ?_
              refine z_istore X dX9_candidateAt_81 (by decide) ?_
              refine z_iload X dX9_candidateAt_83 rfl ?_
              refine z_if_eq (tgt := 105) X dX9_candidateAt_85 (by decide) (fun c_85 => ?_) (fun c_85 => ?_)
              · first | exact absurd c_85 (by decide) | exact absurd (by decide) c_85
              · skip
                refine z_iload X dX9_candidateAt_88 rfl ?_
                have hc90 := zsub_0 (a := nI j) (b := nI (zcnt (zP (σ 23) ne (nI W)) k))
                rw [nI_eq (by omega) (Nat.lt_of_le_of_lt (zcnt_le _ k) (by omega))] at hc90
                refine z_if_ne (tgt := 98) X dX9_candidateAt_90 (by decide) (fun c_90 => ?_) (fun c_90 => ?_)
                · skip
                  refine z_iload X dX9_candidateAt_98 rfl ?_
                  refine z_istore X dX9_candidateAt_100 (by decide) ?_
                  refine z_iinc (v := -1) X dX9_candidateAt_102 rfl (by decide) (by decide) ?_
                  refine z_inc1 X dX9_candidateAt_105 rfl (by decide) ?_
                  refine z_goto (tgt := 15) X dX9_candidateAt_108 (by decide) ?_
                  first
                  | (have e9 := fun f v h => ih_15 (k + 1) f v (by omega) h (by omega); rw [zcnt_n hPn] at e9; exact e9 _ _ (by rcases hfd with q | ⟨q, h1, h2⟩; exact Or.inl q; exact Or.inr ⟨q, by omega, h2⟩))
                  | (have e9 := fun f v h => ih_15 (k + 1) f v (by omega) h (by omega); rw [zcnt_y hPk] at e9; rw [show nI j - nI (zcnt (zP (σ 23) ne (nI W)) k) + (-1) = nI j - nI (zcnt (zP (σ 23) ne (nI W)) k + 1) from zsub_m1] ; refine e9 _ _ ?_; first | exact Or.inr ⟨k, by omega, hPk, hc90.mp c_90, rfl⟩ | (rcases hfd with ⟨q1, q2⟩ | ⟨q, h1, h2⟩; exact Or.inl ⟨by have h9 : j ≠ zcnt (zP (σ 23) ne (nI W)) k := fun e => c_90 (hc90.mpr e); omega, q2⟩; exact Or.inr ⟨q, by omega, h2⟩))
                · skip
                  refine z_iload X dX9_candidateAt_93 rfl ?_
                  refine z_goto (tgt := 100) X dX9_candidateAt_95 (by decide) ?_
                  refine z_istore X dX9_candidateAt_100 (by decide) ?_
                  refine z_iinc (v := -1) X dX9_candidateAt_102 rfl (by decide) (by decide) ?_
                  refine z_inc1 X dX9_candidateAt_105 rfl (by decide) ?_
                  refine z_goto (tgt := 15) X dX9_candidateAt_108 (by decide) ?_
                  first
                  | (have e9 := fun f v h => ih_15 (k + 1) f v (by omega) h (by omega); rw [zcnt_n hPn] at e9; exact e9 _ _ (by rcases hfd with q | ⟨q, h1, h2⟩; exact Or.inl q; exact Or.inr ⟨q, by omega, h2⟩))
                  | (have e9 := fun f v h => ih_15 (k + 1) f v (by omega) h (by omega); rw [zcnt_y hPk] at e9; rw [show nI j - nI (zcnt (zP (σ 23) ne (nI W)) k) + (-1) = nI j - nI (zcnt (zP (σ 23) ne (nI W)) k + 1) from zsub_m1] ; refine e9 _ _ ?_; first | exact Or.inr ⟨k, by omega, hPk, hc90.mp c_90, rfl⟩ | (rcases hfd with ⟨q1, q2⟩ | ⟨q, h1, h2⟩; exact Or.inl ⟨by have h9 : j ≠ zcnt (zP (σ 23) ne (nI W)) k := fun e => c_90 (hc90.mpr e); omega, q2⟩; exact Or.inr ⟨q, by omega, h2⟩))
        · skip
          try simp (disch := omega) only [zb_notn, zb_not, zb_n0, zb_0, Bool.not_eq_false, Bool.not_eq_true, Bool.not_eq_true', Bool.not_eq_false', decide_eq_true_eq, decide_eq_false_iff_not, Classical.not_not] at c_25
          refine z_aload_n X dX9_candidateAt_28 rfl ?_
          refine z_getr2 X fX9_13 (zso_21 hS) (zsr_21_3 hS) rfl dX9_candidateAt_29 ?_
          refine z_iload X dX9_candidateAt_32 rfl ?_
          refine z_ialdN X (zsa_23 hS) (by omega) (by omega) dX9_candidateAt_34 ?_
          refine z_iload_n X dX9_candidateAt_35 rfl ?_
          refine z_icmp_ne (tgt := 43) X dX9_candidateAt_36 (by decide) (fun c_36 => ?_) (fun c_36 => ?_)
          · skip
            have hPn : ¬ (zP (σ 23) ne (nI W)) k := fun q => c_36 ((zP_eq (ht.mp c_25)).mp q)
            refine z_iconst (v := nI 0) X (by decide) dX9_candidateAt_43 ?_
            refine z_goto (tgt := 81) X dX9_candidateAt_44 (by decide) ?_
            refine z_istore X dX9_candidateAt_81 (by decide) ?_
            refine z_iload X dX9_candidateAt_83 rfl ?_
            refine z_if_eq (tgt := 105) X dX9_candidateAt_85 (by decide) (fun c_85 => ?_) (fun c_85 => ?_)
            · skip
              refine z_inc1 X dX9_candidateAt_105 rfl (by decide) ?_
              refine z_goto (tgt := 15) X dX9_candidateAt_108 (by decide) ?_
              first
              | (have e9 := fun f v h => ih_15 (k + 1) f v (by omega) h (by omega); rw [zcnt_n hPn] at e9; exact e9 _ _ (by rcases hfd with q | ⟨q, h1, h2⟩; exact Or.inl q; exact Or.inr ⟨q, by omega, h2⟩))
              | (have e9 := fun f v h => ih_15 (k + 1) f v (by omega) h (by omega); rw [zcnt_y hPk] at e9; rw [show nI j - nI (zcnt (zP (σ 23) ne (nI W)) k) + (-1) = nI j - nI (zcnt (zP (σ 23) ne (nI W)) k + 1) from zsub_m1] ; refine e9 _ _ ?_; first | exact Or.inr ⟨k, by omega, hPk, hc90.mp c_90, rfl⟩ | (rcases hfd with ⟨q1, q2⟩ | ⟨q, h1, h2⟩; exact Or.inl ⟨by have h9 : j ≠ zcnt (zP (σ 23) ne (nI W)) k := fun e => c_90 (hc90.mpr e); omega, q2⟩; exact Or.inr ⟨q, by omega, h2⟩))
            · first | exact absurd c_85 (by decide) | exact absurd (by decide) c_85
          · skip
            have hPk : (zP (σ 23) ne (nI W)) k := (zP_eq (ht.mp c_25)).mpr c_36
            refine z_iconst (v := nI 1) X (by decide) dX9_candidateAt_39 ?_
            refine z_goto (tgt := 81) X dX9_candidateAt_40 (by decide) ?_
            refine z_istore X dX9_candidateAt_81 (by decide) ?_
            refine z_iload X dX9_candidateAt_83 rfl ?_
            refine z_if_eq (tgt := 105) X dX9_candidateAt_85 (by decide) (fun c_85 => ?_) (fun c_85 => ?_)
            · first | exact absurd c_85 (by decide) | exact absurd (by decide) c_85
            · skip
              refine z_iload X dX9_candidateAt_88 rfl ?_
              have hc90 := zsub_0 (a := nI j) (b := nI (zcnt (zP (σ 23) ne (nI W)) k))
              rw [nI_eq (by omega) (Nat.lt_of_le_of_lt (zcnt_le _ k) (by omega))] at hc90
              refine z_if_ne (tgt := 98) X dX9_candidateAt_90 (by decide) (fun c_90 => ?_) (fun c_90 => ?_)
              · skip
                refine z_iload X dX9_candidateAt_98 rfl ?_
                refine z_istore X dX9_candidateAt_100 (by decide) ?_
                refine z_iinc (v := -1) X dX9_candidateAt_102 rfl (by decide) (by decide) ?_
                refine z_inc1 X dX9_candidateAt_105 rfl (by decide) ?_
                refine z_goto (tgt := 15) X dX9_candidateAt_108 (by decide) ?_
                first
                | (have e9 := fun f v h => ih_15 (k + 1) f v (by omega) h (by omega); rw [zcnt_n hPn] at e9; exact e9 _ _ (by rcases hfd with q | ⟨q, h1, h2⟩; exact Or.inl q; exact Or.inr ⟨q, by omega, h2⟩))
                | (have e9 := fun f v h => ih_15 (k + 1) f v (by omega) h (by omega); rw [zcnt_y hPk] at e9; rw [show nI j - nI (zcnt (zP (σ 23) ne (nI W)) k) + (-1) = nI j - nI (zcnt (zP (σ 23) ne (nI W)) k + 1) from zsub_m1] ; refine e9 _ _ ?_; first | exact Or.inr ⟨k, by omega, hPk, hc90.mp c_90, rfl⟩ | (rcases hfd with ⟨q1, q2⟩ | ⟨q, h1, h2⟩; exact Or.inl ⟨by have h9 : j ≠ zcnt (zP (σ 23) ne (nI W)) k := fun e => c_90 (hc90.mpr e); omega, q2⟩; exact Or.inr ⟨q, by omega, h2⟩))
              · skip
                refine z_iload X dX9_candidateAt_93 rfl ?_
                refine z_goto (tgt := 100) X dX9_candidateAt_95 (by decide) ?_
                refine z_istore X dX9_candidateAt_100 (by decide) ?_
                refine z_iinc (v := -1) X dX9_candidateAt_102 rfl (by decide) (by decide) ?_
                refine z_inc1 X dX9_candidateAt_105 rfl (by decide) ?_
                refine z_goto (tgt := 15) X dX9_candidateAt_108 (by decide) ?_
                first
                | (have e9 := fun f v h => ih_15 (k + 1) f v (by omega) h (by omega); rw [zcnt_n hPn] at e9; exact e9 _ _ (by rcases hfd with q | ⟨q, h1, h2⟩; exact Or.inl q; exact Or.inr ⟨q, by omega, h2⟩))
                | (have e9 := fun f v h => ih_15 (k + 1) f v (by omega) h (by omega); rw [zcnt_y hPk] at e9; rw [show nI j - nI (zcnt (zP (σ 23) ne (nI W)) k) + (-1) = nI j - nI (zcnt (zP (σ 23) ne (nI W)) k + 1) from zsub_m1] ; refine e9 _ _ ?_; first | exact Or.inr ⟨k, by omega, hPk, hc90.mp c_90, rfl⟩ | (rcases hfd with ⟨q1, q2⟩ | ⟨q, h1, h2⟩; exact Or.inl ⟨by have h9 : j ≠ zcnt (zP (σ 23) ne (nI W)) k := fun e => c_90 (hc90.mpr e); omega, q2⟩; exact Or.inr ⟨q, by omega, h2⟩))
  refine z_iconst (v := nI 0) X (by decide) dX9_candidateAt_12 ?_
  refine z_istore X dX9_candidateAt_13 (by decide) ?_
  have e15 := fun v => loop_15 (ne - 0 + 1) 0 (-1) v (Nat.zero_le _) (Or.inl ⟨Nat.zero_le _, rfl⟩) (by omega)
  simp only [show zcnt (zP (σ 23) ne (nI W)) 0 = 0 from rfl, show nI j - nI 0 = nI j from Int32.sub_zero _] at e15
  exact e15 _

theorem zca_n {C : Nat → Int32} {ne j : Nat} {w r : Int32} (he : ne ≤ 40) (h : zca C ne w j r) : (r = -1 ∧ zcnt (zP C ne w) ne ≤ j) ∨ (r ≠ -1 ∧ j < zcnt (zP C ne w) ne) := by
  rcases h with ⟨h1, h2⟩ | ⟨k, hk, hp, h1, h2⟩
  · exact Or.inl ⟨h2, h1⟩
  · exact Or.inr ⟨by rw [h2]; exact nI_ne_m1 (by omega), by rw [h1]; exact zcnt_lt hk hp⟩
set_option maxHeartbeats 4000000 in
set_option maxRecDepth 100000 in
theorem tX9_candidatesOf {l : Launch} {D : va_G} {cy : Nat → ClassId} {z0 : Nat} {g : zSh} {σ : zIn} {ne : Nat} (W : Nat) (hS : zS g) (he : σ 21 2 = nI ne) (he2 : ne ≤ 40) (hC : ∀ k, k < ne → zwd (σ 23 k)) (hW : W < 11881376) : z_Ct l D cy z0 MX9_candidatesOf [.ref (g.2.1 21), .int (nI W)] g σ (zI (nI (zcnt (zP (σ 23) ne (nI W)) ne)) g σ) := by
  refine z_ofM (by decide) (z_cr (z_ci z_c0)) (Nat.le_of_ble_eq_true rfl) ?_
  intro p e s m args below meth c X
  have loop_2 : ∀ (n : Nat) (j : Nat) (hj : j ≤ zcnt (zP (σ 23) ne (nI W)) ne) (hn : zcnt (zP (σ 23) ne (nI W)) ne - j < n), z_V p l e (zRm MX9_candidatesOf) s m args below meth c 3 D cy z0 0 0 (zQm MX9_candidatesOf below D cy z0 (zI (nI (zcnt (zP (σ 23) ne (nI W)) ne)) g σ) args s) 2 [some (.ref (g.2.1 21)), some (.int (nI W)), some (.int (nI j))] [] g σ := by
    intro n
    induction n with
    | zero => intro j hj hn; exact absurd hn (Nat.not_lt_zero _)
    | succ n ih_2 =>
      intro j hj hn
      have h40 := zcnt_le (zP (σ 23) ne (nI W)) ne
      refine z_aload_n X dX9_candidatesOf_2 rfl ?_
      refine z_iload_n X dX9_candidatesOf_3 rfl ?_
      refine z_iload_n X dX9_candidatesOf_4 rfl ?_
      refine z_runV X kX9_178 (tX9_candidateAt W j hS he he2 hC hW (by omega)) (zso_21 hS) rfl rfl (Nat.le_of_ble_eq_true rfl) ⟨by decide, by decide⟩ ⟨by decide, by decide⟩ dX9_candidatesOf_5 ?_
      rintro _ g1 s1 ⟨r, rfl, h8, h9, hr⟩
      replace h8 := h8.symm
      subst h8
      replace h9 := h9.symm
      subst h9
      have hr2 := zca_n he2 hr
      refine z_iconst (v := -1) X (by decide) dX9_candidatesOf_8 ?_
      refine z_icmp_eq (tgt := 18) X dX9_candidatesOf_9 (by decide) (fun c_9 => ?_) (fun c_9 => ?_)
      · skip
        refine z_iload_n X dX9_candidatesOf_18 rfl ?_
        refine z_iret X (by decide) (by decide) rfl dX9_candidatesOf_19 ?_
        have e : j = zcnt (zP (σ 23) ne (nI W)) ne := by rcases hr2 with ⟨h1, h2⟩ | ⟨h1, h2⟩; omega; exact absurd c_9 h1
        subst e
        exact ⟨rfl, rfl, rfl⟩
      · skip
        refine z_inc1 X dX9_candidatesOf_12 rfl (by decide) ?_
        refine z_goto (tgt := 2) X dX9_candidatesOf_15 (by decide) ?_
        exact ih_2 (j + 1) (by rcases hr2 with ⟨h1, h2⟩ | ⟨h1, h2⟩; exact absurd h1 c_9; omega) (by rcases hr2 with ⟨h1, h2⟩ | ⟨h1, h2⟩; exact absurd h1 c_9; omega)
  refine z_iconst (v := nI 0) X (by decide) dX9_candidatesOf_0 ?_
  refine z_istore_n X dX9_candidatesOf_1 (by decide) ?_
  exact loop_2 (zcnt (zP (σ 23) ne (nI W)) ne - 0 + 1) 0 (Nat.zero_le _) (by omega)

set_option maxHeartbeats 4000000 in
set_option maxRecDepth 100000 in
theorem tX9_candidates {l : Launch} {D : va_G} {cy : Nat → ClassId} {z0 : Nat} {g : zSh} {σ : zIn} {ne : Nat} (w : Int32) (hS : zS g) (he : σ 21 2 = nI ne) (he2 : ne ≤ 40) (hC : ∀ k, k < ne → zwd (σ 23 k)) : z_Ct l D cy z0 MX9_candidates [.ref (g.2.1 21), .int w] g σ (fun v g' σ' => g' = g ∧ ∃ r, v = some (.int r) ∧ zMP (zx_cands w) σ σ' (r = nI (zcnt (zP (σ 23) ne w) ne) ∧ σ' = z_up σ 21 48 0)) := by
  refine z_ofM (by decide) (z_cr (z_ci z_c0)) (Nat.le_of_ble_eq_true rfl) ?_
  intro p e s m args below meth c X
  refine z_aload_n X dX9_candidates_0 rfl ?_
  refine z_iload_n X dX9_candidates_1 rfl ?_
  refine z_runS X kX9_165 (tX9_isWordN _) rfl rfl (Nat.le_of_ble_eq_true rfl) ⟨by decide, by decide⟩ ⟨by decide, by decide⟩ dX9_candidates_2 ?_
  rintro _ g1 s1 ⟨rfl, h8, h9⟩
  replace h8 := h8.symm
  subst h8
  replace h9 := h9.symm
  subst h9
  obtain ⟨b5, hb5⟩ : ∃ q : Bool, q = (!decide (w < 0 ∨ 11881375 < w)) := ⟨_, rfl⟩
  rw [← hb5]
  cases b5
  · skip
    skip
    refine z_runV X kX9_150 (tX9_asks false hS) (zso_21 hS) rfl rfl (Nat.le_of_ble_eq_true rfl) ⟨by decide, by decide⟩ ⟨by decide, by decide⟩ dX9_candidates_5 ?_
    rintro _ g1 s1 ⟨rfl, h8, h9⟩
    replace h8 := h8.symm
    subst h8
    replace h9 := h9.symm
    subst h9
    refine z_if_eq (tgt := 19) X dX9_candidates_8 (by decide) (fun c_8 => ?_) (fun c_8 => ?_)
    · skip
      refine z_iconst (v := 0) X (by decide) dX9_candidates_19 ?_
      refine z_iret X (by decide) (by decide) rfl dX9_candidates_20 ?_
      first | exact ⟨rfl, _, rfl, zMP_1 (j := 0) (by unfold zx_cands; rw [if_pos (znd_f hb5)]) rfl⟩ | exact ⟨rfl, _, rfl, Or.inr ⟨by unfold zx_cands; rw [if_neg (znd_t hb5)], rfl, rfl⟩⟩
    · exact absurd rfl c_8
  · skip
    skip
    refine z_runV X kX9_150 (tX9_asks true hS) (zso_21 hS) rfl rfl (Nat.le_of_ble_eq_true rfl) ⟨by decide, by decide⟩ ⟨by decide, by decide⟩ dX9_candidates_5 ?_
    rintro _ g1 s1 ⟨rfl, h8, h9⟩
    replace h8 := h8.symm
    subst h8
    replace h9 := h9.symm
    subst h9
    refine z_if_eq (tgt := 19) X dX9_candidates_8 (by decide) (fun c_8 => ?_) (fun c_8 => ?_)
    · exact absurd c_8 (by decide)
    · skip
      refine z_aload_n X dX9_candidates_11 rfl ?_
      refine z_iload_n X dX9_candidates_12 rfl ?_
      obtain ⟨W, hW, rfl⟩ := zwd_of (znd_t hb5)
      refine z_runV X kX9_181 (tX9_candidatesOf W hS (by rw [z_up_app, if_pos rfl, if_neg (by decide)]; exact he) he2 hC hW) (zso_21 hS) rfl rfl (Nat.le_of_ble_eq_true rfl) ⟨by decide, by decide⟩ ⟨by decide, by decide⟩ dX9_candidates_13 ?_
      rintro _ g1 s1 ⟨rfl, h8, h9⟩
      replace h8 := h8.symm
      subst h8
      replace h9 := h9.symm
      subst h9
      refine z_goto (tgt := 20) X dX9_candidates_16 (by decide) ?_
      refine z_iret X (by decide) (by decide) rfl dX9_candidates_20 ?_
      first | exact ⟨rfl, _, rfl, zMP_1 (j := 0) (by unfold zx_cands; rw [if_pos (znd_f hb5)]) rfl⟩ | exact ⟨rfl, _, rfl, Or.inr ⟨by unfold zx_cands; rw [if_neg (znd_t hb5)], rfl, rfl⟩⟩

set_option maxHeartbeats 4000000 in
set_option maxRecDepth 100000 in
theorem tX9_candidate {l : Launch} {D : va_G} {cy : Nat → ClassId} {z0 : Nat} {g : zSh} {σ : zIn} {ne : Nat} (w x : Int32) (hS : zS g) (he : σ 21 2 = nI ne) (he2 : ne ≤ 40) (hC : ∀ k, k < ne → zwd (σ 23 k)) : z_Ct l D cy z0 MX9_candidate [.ref (g.2.1 21), .int w, .int x] g σ (fun v g' σ' => g' = g ∧ ∃ r, v = some (.int r) ∧ zMP (zx_cand w x) σ σ' ((∃ j, j < 2 ^ 31 ∧ x = nI j ∧ zca (σ 23) ne w j r) ∧ σ' = z_up σ 21 48 0)) := by
  refine z_ofM (by decide) (z_cr (z_ci (z_ci z_c0))) (Nat.le_of_ble_eq_true rfl) ?_
  intro p e s m args below meth c X
  refine z_aload_n X dX9_candidate_0 rfl ?_
  refine z_iload_n X dX9_candidate_1 rfl ?_
  refine z_if_lt (tgt := 9) X dX9_candidate_2 (by decide) (fun c_2 => ?_) (fun c_2 => ?_)
  · skip
    refine z_iconst (v := 0) X (by decide) dX9_candidate_9 ?_
    refine z_runV X kX9_150 (tX9_asks false hS) (zso_21 hS) rfl rfl (Nat.le_of_ble_eq_true rfl) ⟨by decide, by decide⟩ ⟨by decide, by decide⟩ dX9_candidate_10 ?_
    rintro _ g1 s1 ⟨rfl, h8, h9⟩
    replace h8 := h8.symm
    subst h8
    replace h9 := h9.symm
    subst h9
    refine z_if_ne (tgt := 18) X dX9_candidate_13 (by decide) (fun c_13 => ?_) (fun c_13 => ?_)
    · first | exact absurd c_13 (by decide) | exact absurd (by decide) c_13
    · skip
      refine z_iconst (v := 0) X (by decide) dX9_candidate_16 ?_
      refine z_iret X (by decide) (by decide) rfl dX9_candidate_17 ?_
      exact ⟨rfl, _, rfl, zMP_1 (j := 0) (by unfold zx_cand; rw [if_pos c_2]) rfl⟩
  · skip
    refine z_iconst (v := 1) X (by decide) dX9_candidate_5 ?_
    refine z_goto (tgt := 10) X dX9_candidate_6 (by decide) ?_
    refine z_runV X kX9_150 (tX9_asks true hS) (zso_21 hS) rfl rfl (Nat.le_of_ble_eq_true rfl) ⟨by decide, by decide⟩ ⟨by decide, by decide⟩ dX9_candidate_10 ?_
    rintro _ g1 s1 ⟨rfl, h8, h9⟩
    replace h8 := h8.symm
    subst h8
    replace h9 := h9.symm
    subst h9
    refine z_if_ne (tgt := 18) X dX9_candidate_13 (by decide) (fun c_13 => ?_) (fun c_13 => ?_)
    · skip
      refine z_iload_n X dX9_candidate_18 rfl ?_
      refine z_runS X kX9_165 (tX9_isWordN _) rfl rfl (Nat.le_of_ble_eq_true rfl) ⟨by decide, by decide⟩ ⟨by decide, by decide⟩ dX9_candidate_19 ?_
      rintro _ g1 s1 ⟨rfl, h8, h9⟩
      replace h8 := h8.symm
      subst h8
      replace h9 := h9.symm
      subst h9
      refine z_if_eq (tgt := 34) X dX9_candidate_22 (by decide) (fun c_22 => ?_) (fun c_22 => ?_)
      · skip
        try simp (disch := omega) only [zb_notn, zb_not, zb_n0, zb_0, Bool.not_eq_false, Bool.not_eq_true, Bool.not_eq_true', Bool.not_eq_false', decide_eq_true_eq, decide_eq_false_iff_not, Classical.not_not] at c_22
        refine z_aload_n X dX9_candidate_34 rfl ?_
        refine z_iconst (v := 2) X (by decide) dX9_candidate_35 ?_
        refine z_runV X kX9_154 (tX9_fails _ hS) (zso_21 hS) rfl rfl (Nat.le_of_ble_eq_true rfl) ⟨by decide, by decide⟩ ⟨by decide, by decide⟩ dX9_candidate_36 ?_
        rintro _ g1 s1 ⟨rfl, h8, h9⟩
        replace h8 := h8.symm
        subst h8
        replace h9 := h9.symm
        subst h9
        refine z_iret X (by decide) (by decide) rfl dX9_candidate_39 ?_
        first | exact ⟨rfl, _, rfl, Or.inr ⟨by unfold zx_cand; rw [if_neg c_2, if_neg c_22], ⟨j, hj, rfl, hr⟩, rfl⟩⟩ | exact ⟨rfl, _, rfl, zMP_2 (j := 1) (by unfold zx_cand; rw [if_neg c_2, if_pos c_22]) rfl⟩
      · skip
        try simp (disch := omega) only [zb_notn, zb_not, zb_n0, zb_0, Bool.not_eq_false, Bool.not_eq_true, Bool.not_eq_true', Bool.not_eq_false', decide_eq_true_eq, decide_eq_false_iff_not, Classical.not_not] at c_22
        refine z_aload_n X dX9_candidate_25 rfl ?_
        refine z_iload_n X dX9_candidate_26 rfl ?_
        refine z_iload_n X dX9_candidate_27 rfl ?_
        obtain ⟨W, hW, rfl⟩ := zwd_of c_22
        obtain ⟨j, hj, rfl⟩ := nI_of c_2
        refine z_runV X kX9_178 (tX9_candidateAt W j hS (by rw [z_up_app, if_pos rfl, if_neg (by decide)]; exact he) he2 hC hW hj) (zso_21 hS) rfl rfl (Nat.le_of_ble_eq_true rfl) ⟨by decide, by decide⟩ ⟨by decide, by decide⟩ dX9_candidate_28 ?_
        rintro _ g1 s1 ⟨r, rfl, h8, h9, hr⟩
        replace h8 := h8.symm
        subst h8
        replace h9 := h9.symm
        subst h9
        refine z_goto (tgt := 39) X dX9_candidate_31 (by decide) ?_
        refine z_iret X (by decide) (by decide) rfl dX9_candidate_39 ?_
        first | exact ⟨rfl, _, rfl, Or.inr ⟨by unfold zx_cand; rw [if_neg c_2, if_neg c_22], ⟨j, hj, rfl, hr⟩, rfl⟩⟩ | exact ⟨rfl, _, rfl, zMP_2 (j := 1) (by unfold zx_cand; rw [if_neg c_2, if_pos c_22]) rfl⟩
    · first | exact absurd c_13 (by decide) | exact absurd (by decide) c_13
