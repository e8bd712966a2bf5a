/-! contract of the reference: passing -/
def zle2 (nm : Nat) (q : zQ) : Prop := ∀ m, m < nm → q.1 m ≤ 2
theorem zrcy_2 {fm tt pd ad ot : Nat → Nat} {ro : Nat → Nat → Nat} {hc fb : Nat → Bool} {nm m w : Nat} {q : zQ} (h : zle2 nm q) : zle2 nm (zrcy fm tt pd ro hc fb ad ot m w q) := by
  intro j hj
  have h1 := h j hj
  unfold zrcy
  split
  · show zud q.1 m _ j ≤ 2
    unfold zud
    by_cases e : j = m
    · subst e
      rw [if_pos rfl]
      split
      · omega
      · split <;> omega
    · rw [if_neg e]; exact h1
  · exact h1
theorem zrmf_2 {fm tt kd pd ad ot : Nat → Nat} {ro : Nat → Nat → Nat} {hc fb : Nat → Bool} {nm c kind : Nat} {s : zQ × Nat} (h : zle2 nm s.1) : ∀ m, zle2 nm (zrmf fm tt kd pd ro hc fb ad ot c kind s m).1
  | 0 => h
  | m + 1 => by
    have h1 := zrmf_2 (fm := fm) (tt := tt) (kd := kd) (pd := pd) (ro := ro) (hc := hc) (fb := fb) (ad := ad) (ot := ot) (c := c) (kind := kind) h m
    show zle2 nm (zrm1 fm tt kd pd ro hc fb ad ot c kind m (zrmf fm tt kd pd ro hc fb ad ot c kind s m)).1
    unfold zrm1
    split
    · exact zrcy_2 h1
    · exact h1
theorem zrkf_2 {fm tt kd pd ad ot : Nat → Nat} {ro : Nat → Nat → Nat} {hc fb : Nat → Bool} {nm c : Nat} {s : zQ × Nat} (h : zle2 nm s.1) : ∀ j, zle2 nm (zrkf fm tt kd pd ro hc fb ad ot nm c s j).1
  | 0 => h
  | j + 1 => zrmf_2 (zrkf_2 h j) nm
theorem zrcf_2 {fm tt kd pd ad ot sp : Nat → Nat} {ro : Nat → Nat → Nat} {hc fb br : Nat → Bool} {nm : Nat} {q : zQ} (h : zle2 nm q) : ∀ c, zle2 nm (zrcf fm tt kd pd ro hc fb ad ot sp br nm q c)
  | 0 => h
  | c + 1 => zrkf_2 (s := (zrcf fm tt kd pd ro hc fb ad ot sp br nm q c, if br c then 0 else sp c)) (zrcf_2 h c) 3
/-- a minute of the reference -/
def zrmin (fm tt kd pd : Nat → Nat) (ro : Nat → Nat → Nat) (hc fb : Nat → Bool) (ad ot sp : Nat → Nat) (br : Nat → Bool) (nm nc : Nat) (q : zQ) : zQ := zrcf fm tt kd pd ro hc fb ad ot sp br nm (zri nm q) nc
def zrit (f : zQ → zQ) (q : zQ) : Nat → zQ
  | 0 => q
  | n + 1 => f (zrit f q n)
set_option maxHeartbeats 4000000 in
set_option maxRecDepth 100000 in
theorem tX9_pass {l : Launch} {D : va_G} {cy : Nat → ClassId} {z0 : Nat} {g : zSh} {σ : zIn} {nm no nc : Nat} {fm tt kd pd RL ad ot rt sp : Nat → Nat} {ro : Nat → Nat → Nat} {hc fb br : Nat → Bool} {mi : Nat} {q : zQ} (xq : Int32) (hS : zS g) (hmi : σ 21 47 = nI mi) (hmi2 : mi ≤ 1000000) (hnc : σ 21 10 = nI nc) (hn12 : nc ≤ 12) (hn8 : no ≤ 8) (hnm : σ 21 27 = nI nm) (hn60 : nm ≤ 60) (hCR : zCR σ nc no ad ot rt sp br) (hRs : zRs σ nm no nc fm tt kd pd RL ro hc fb ad ot) (hRd : zRd σ nm q) (hRi : zRi nm RL pd q) (hRt : zRt nm fm tt RL ro ad ot) (hst2 : zle2 nm q) : z_Ct l D cy z0 MX9_pass [.ref (g.2.1 21), .int xq] g σ (fun v g' σ' => g' = g ∧ ∃ r, v = some (.int r) ∧ zMP (zx_pass mi xq) σ σ' (∃ j, xq = nI j ∧ 1 ≤ j ∧ j ≤ 60 ∧ mi + j ≤ 1000000 ∧ r = nI (mi + j) ∧ (∀ i, i ≠ 21 → i ≠ 44 → i ≠ 48 → i ≠ 54 → i ≠ 55 → i ≠ 56 → σ' i = σ i) ∧ (∀ k, k ≠ 47 → k ≠ 48 → σ' 21 k = σ 21 k) ∧ σ' 21 48 = 0 ∧ σ' 21 47 = nI (mi + j) ∧ zRd σ' nm (zrit (zrmin fm tt kd pd ro hc fb ad ot sp br nm nc) q j) ∧ zRi nm RL pd (zrit (zrmin fm tt kd pd ro hc fb ad ot sp br nm nc) q j) ∧ zle2 nm (zrit (zrmin fm tt kd pd ro hc fb ad ot sp br nm nc) q j) ∧ ∀ j, nm ≤ j → σ' 56 j = σ 56 j)) := by
  refine z_ofM (by decide) (z_cr (z_ci z_c0)) (Nat.le_of_ble_eq_true rfl) ?_
  intro p e s m args below meth c X
  refine z_aload_n X dX9_pass_0 rfl ?_
  refine z_iload_n X dX9_pass_1 rfl ?_
  refine z_iconst (v := 1) X (by decide) dX9_pass_2 ?_
  refine z_bipush (v := 60) X (by decide) dX9_pass_3 ?_
  refine z_runS X kX9_129 (tX9_inN _ _ _) rfl rfl (Nat.le_of_ble_eq_true rfl) ⟨by decide, by decide⟩ ⟨by decide, by decide⟩ dX9_pass_5 ?_
  rintro _ g1 s1 ⟨rfl, h8, h9⟩
  replace h8 := h8.symm
  subst h8
  replace h9 := h9.symm
  subst h9
  obtain ⟨b8, hb8⟩ : ∃ q : Bool, q = (!decide (xq < 1 ∨ 60 < xq)) := ⟨_, rfl⟩
  rw [← hb8]
  cases b8
  · skip
    skip
    refine z_runV X kX9_150 (tX9_asks false hS) (zso_21 hS) rfl rfl (Nat.le_of_ble_eq_true rfl) ⟨by decide, by decide⟩ ⟨by decide, by decide⟩ dX9_pass_8 ?_
    rintro _ g1 s1 ⟨rfl, h8, h9⟩
    replace h8 := h8.symm
    subst h8
    replace h9 := h9.symm
    subst h9
    refine z_if_ne (tgt := 16) X dX9_pass_11 (by decide) (fun c_11 => ?_) (fun c_11 => ?_)
    · exact absurd rfl c_11
    · skip
      refine z_iconst (v := 0) X (by decide) dX9_pass_14 ?_
      refine z_iret X (by decide) (by decide) rfl dX9_pass_15 ?_
      exact ⟨rfl, _, rfl, zMP_1 (j := 0) (by unfold zx_pass; rw [if_pos (znd_f hb8)]) rfl⟩
  · skip
    skip
    refine z_runV X kX9_150 (tX9_asks true hS) (zso_21 hS) rfl rfl (Nat.le_of_ble_eq_true rfl) ⟨by decide, by decide⟩ ⟨by decide, by decide⟩ dX9_pass_8 ?_
    rintro _ g1 s1 ⟨rfl, h8, h9⟩
    replace h8 := h8.symm
    subst h8
    replace h9 := h9.symm
    subst h9
    refine z_if_ne (tgt := 16) X dX9_pass_11 (by decide) (fun c_11 => ?_) (fun c_11 => ?_)
    · skip
      have hx9 := znd_t hb8
      obtain ⟨j9, hj1, hj2, rfl⟩ := zrg_k (n := 60) (by decide) hx9
      have ek : zn (nI j9) = j9 := zn_nI (by omega)
      obtain ⟨τ, hτ⟩ : ∃ q, q = z_up σ 21 48 0 := ⟨_, rfl⟩
      rw [show z_up σ 21 48 (if true = true then 0 else 1) = τ from hτ.symm]
      have eτ : ∀ i, i ≠ 21 → τ i = σ i := fun i h => by rw [hτ, z_up_ne h]
      have eτ1 : ∀ k, k ≠ 48 → τ 21 k = σ 21 k := fun k h => by rw [hτ, z_up_app, if_pos rfl, if_neg h]
      have hmτ : τ 21 47 = nI mi := (eτ1 47 (by decide)).trans hmi
      refine z_aload_n X dX9_pass_16 rfl ?_
      refine z_geti X fX9_196 (zso_21 hS) rfl dX9_pass_17 ?_
      rw [hmτ]
      refine z_iload_n X dX9_pass_20 rfl ?_
      refine z_iaddN X dX9_pass_21 ?_
      refine z_ldc X qX9_217 dX9_pass_22 ?_
      rw [zkM]
      refine z_icmp_le (tgt := 33) X dX9_pass_24 (by decide) (fun c_24 => ?_) (fun c_24 => ?_)
      · skip
        try simp (disch := omega) only [zk0, nI_leI, nI_ltI, nI_eq, zbk_notn, zbk_not, zbk_n0, zbk_0, zb_0, zb_n0, zb_not, zb_notn, Bool.not_eq_false, Bool.not_eq_true, Bool.not_eq_true', Bool.not_eq_false', decide_eq_true_eq, decide_eq_false_iff_not, Classical.not_not] at c_24
        have loop_35 : ∀ (n : Nat) (k9 : Nat) (υ : zIn) (hk : k9 ≤ j9) (hF : ∀ i, i ≠ 21 → i ≠ 44 → i ≠ 48 → i ≠ 54 → i ≠ 55 → i ≠ 56 → υ i = σ i) (hF21 : ∀ k, k ≠ 47 → k ≠ 48 → υ 21 k = σ 21 k) (hF56 : ∀ j, nm ≤ j → υ 56 j = σ 56 j) (h48 : υ 21 48 = 0) (hm7 : υ 21 47 = nI (mi + k9)) (hRd : zRd υ nm (zrit (zrmin fm tt kd pd ro hc fb ad ot sp br nm nc) q k9)) (hRi : zRi nm RL pd (zrit (zrmin fm tt kd pd ro hc fb ad ot sp br nm nc) q k9)) (hs2 : zle2 nm (zrit (zrmin fm tt kd pd ro hc fb ad ot sp br nm nc) q k9)) (hn : j9 - k9 < n), z_V p l e (zRm MX9_pass) s m args below meth c 3 D cy z0 0 0 (zQm MX9_pass below D cy z0 (fun v g' σ' => g' = g ∧ ∃ r, v = some (.int r) ∧ zMP (zx_pass mi (nI j9)) σ σ' (∃ j, (nI j9) = nI j ∧ 1 ≤ j ∧ j ≤ 60 ∧ mi + j ≤ 1000000 ∧ r = nI (mi + j) ∧ (∀ i, i ≠ 21 → i ≠ 44 → i ≠ 48 → i ≠ 54 → i ≠ 55 → i ≠ 56 → σ' i = σ i) ∧ (∀ k, k ≠ 47 → k ≠ 48 → σ' 21 k = σ 21 k) ∧ σ' 21 48 = 0 ∧ σ' 21 47 = nI (mi + j) ∧ zRd σ' nm (zrit (zrmin fm tt kd pd ro hc fb ad ot sp br nm nc) q j) ∧ zRi nm RL pd (zrit (zrmin fm tt kd pd ro hc fb ad ot sp br nm nc) q j) ∧ zle2 nm (zrit (zrmin fm tt kd pd ro hc fb ad ot sp br nm nc) q j) ∧ ∀ j, nm ≤ j → σ' 56 j = σ 56 j)) args s) 35 [some (.ref (g.2.1 21)), some (.int (nI j9)), some (.int (nI k9))] [] g υ := by
          intro n
          induction n with
          | zero => intro k9 υ hk hF hF21 hF56 h48 hm7 hRd hRi hs2 hn; exact absurd hn (Nat.not_lt_zero _)
          | succ n ih_35 =>
            intro k9 υ hk hF hF21 hF56 h48 hm7 hRd hRi hs2 hn
            refine z_iload_n X dX9_pass_35 rfl ?_
            refine z_iload_n X dX9_pass_36 rfl ?_
            refine z_icmp_ge (tgt := 60) X dX9_pass_37 (by decide) (fun c_37 => ?_) (fun c_37 => ?_)
            · skip
              try simp (disch := omega) only [zk0, nI_leI, nI_ltI, nI_eq, zbk_notn, zbk_not, zbk_n0, zbk_0, zb_0, zb_n0, zb_not, zb_notn, Bool.not_eq_false, Bool.not_eq_true, Bool.not_eq_true', Bool.not_eq_false', decide_eq_true_eq, decide_eq_false_iff_not, Classical.not_not] at c_37
              refine z_aload_n X dX9_pass_60 rfl ?_
              refine z_geti X fX9_196 (zso_21 hS) rfl dX9_pass_61 ?_
              rw [hm7]
              refine z_iret X (by decide) (by decide) rfl dX9_pass_64 ?_
              have e : j9 = k9 := by omega
              subst e
              exact ⟨rfl, _, rfl, Or.inr ⟨by unfold zx_pass; rw [if_neg hx9, if_neg (by rw [ek]; omega)], j9, rfl, hj1, hj2, by omega, rfl, hF, hF21, h48, hm7, hRd, hRi, hs2, hF56⟩⟩
            · skip
              try simp (disch := omega) only [zk0, nI_leI, nI_ltI, nI_eq, zbk_notn, zbk_not, zbk_n0, zbk_0, zb_0, zb_n0, zb_not, zb_notn, Bool.not_eq_false, Bool.not_eq_true, Bool.not_eq_true', Bool.not_eq_false', decide_eq_true_eq, decide_eq_false_iff_not, Classical.not_not] at c_37
              refine z_aload_n X dX9_pass_40 rfl ?_
              refine z_runV X kX9_269 (tX9_carries (q := zrit (zrmin fm tt kd pd ro hc fb ad ot sp br nm nc) q k9) hS (by rw [hF21 10 (by decide) (by decide)]; exact hnc) hn12 hn8 (by rw [hF21 27 (by decide) (by decide)]; exact hnm) hn60 (zCR_e hCR (fun i h1 h2 => hF i (by omega) (by omega) (by omega) (by omega) (by omega) (by omega))) (by unfold zRs; rw [hF 41 (by decide) (by decide) (by decide) (by decide) (by decide) (by decide), hF 42 (by decide) (by decide) (by decide) (by decide) (by decide) (by decide), hF 43 (by decide) (by decide) (by decide) (by decide) (by decide) (by decide), hF 46 (by decide) (by decide) (by decide) (by decide) (by decide) (by decide), hF 49 (by decide) (by decide) (by decide) (by decide) (by decide) (by decide), hF 52 (by decide) (by decide) (by decide) (by decide) (by decide) (by decide), hF 25 (by decide) (by decide) (by decide) (by decide) (by decide) (by decide)]; exact hRs) hRd hRi hRt hs2) (zso_21 hS) rfl rfl (Nat.le_of_ble_eq_true rfl) ⟨by decide, by decide⟩ ⟨by decide, by decide⟩ dX9_pass_41 ?_
              rintro _ g1 s9 ⟨rfl, h8, hF9, hRd9, hRi9⟩
              replace h8 := h8.symm
              subst h8
              refine z_aload_n X dX9_pass_44 rfl ?_
              refine z_dup X rfl dX9_pass_45 ?_
              refine z_geti X fX9_196 (zso_21 hS) rfl dX9_pass_46 ?_
              rw [hF9.1 21 (by decide) (by decide) (by decide) (by decide) (by decide), hm7]
              refine z_iconst (v := nI 1) X (by decide) dX9_pass_49 ?_
              refine z_iaddN X dX9_pass_50 ?_
              refine z_puti X fX9_196 (zso_21 hS) rfl dX9_pass_51 ?_
              refine z_inc1 X dX9_pass_54 rfl (by decide) ?_
              refine z_goto (tgt := 35) X dX9_pass_57 (by decide) ?_
              exact ih_35 (k9 + 1) _ (by omega) (fun i h1 h2 h3 h4 h5 h6 => by rw [z_up_ne h1, hF9.1 i h2 h3 h4 h5 h6]; exact hF i h1 h2 h3 h4 h5 h6) (fun k h1 h2 => by rw [z_up_app, if_pos rfl, if_neg h1, hF9.1 21 (by decide) (by decide) (by decide) (by decide) (by decide)]; exact hF21 k h1 h2) (fun j hj => by rw [z_up_ne (by decide), hF9.2 j hj]; exact hF56 j hj) (by rw [z_up_app, if_pos rfl, if_neg (by decide), hF9.1 21 (by decide) (by decide) (by decide) (by decide) (by decide)]; exact h48) (by rw [z_up_app, if_pos rfl, if_pos rfl]; rfl) (fun m hm => by rw [z_up_ne (by decide), z_up_ne (by decide), z_up_ne (by decide), z_up_ne (by decide), z_up_ne (by decide)]; exact hRd9 m hm) hRi9 (zrcf_2 (q := zri nm (zrit (zrmin fm tt kd pd ro hc fb ad ot sp br nm nc) q k9)) hs2 nc) (by omega)
        refine z_iconst (v := nI 0) X (by decide) dX9_pass_33 ?_
        refine z_istore_n X dX9_pass_34 (by decide) ?_
        exact loop_35 (j9 - 0 + 1) 0 τ (Nat.zero_le _) (fun i h _ _ _ _ _ => eτ i h) (fun k _ h => eτ1 k h) (fun j _ => by rw [eτ 56 (by decide)]) (by rw [hτ, z_up_app, if_pos rfl, if_pos rfl]) hmτ (fun m hm => by rw [eτ 44 (by decide), eτ 54 (by decide), eτ 55 (by decide), eτ 56 (by decide), eτ 48 (by decide)]; exact hRd m hm) hRi hst2 (by omega)
      · skip
        try simp (disch := omega) only [zk0, nI_leI, nI_ltI, nI_eq, zbk_notn, zbk_not, zbk_n0, zbk_0, zb_0, zb_n0, zb_not, zb_notn, Bool.not_eq_false, Bool.not_eq_true, Bool.not_eq_true', Bool.not_eq_false', decide_eq_true_eq, decide_eq_false_iff_not, Classical.not_not] at c_24
        refine z_aload_n X dX9_pass_27 rfl ?_
        refine z_iconst (v := 2) X (by decide) dX9_pass_28 ?_
        refine z_runV X kX9_154 (tX9_fails _ hS) (zso_21 hS) rfl rfl (Nat.le_of_ble_eq_true rfl) ⟨by decide, by decide⟩ ⟨by decide, by decide⟩ dX9_pass_29 ?_
        rintro _ g1 s1 ⟨rfl, h8, h9⟩
        replace h8 := h8.symm
        subst h8
        replace h9 := h9.symm
        subst h9
        refine z_iret X (by decide) (by decide) rfl dX9_pass_32 ?_
        exact ⟨rfl, _, rfl, by rw [hτ]; exact zMP_2 (j := 1) (by unfold zx_pass; rw [if_neg hx9, if_pos (by rw [ek]; omega)]) rfl⟩
    · exact absurd c_11 (by decide)
