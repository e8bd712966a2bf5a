/-! contracts of the reference: a minute, passing -/
/-- what holds of the messages between two carryings -/
def zRi (nm : Nat) (RL pd : Nat → Nat) (q : zQ) : Prop := ∀ m, m < nm → (q.2.2.2.1 m = true → q.1 m = 0) ∧ (q.1 m = 0 → q.2.1 m < RL m ∧ q.2.2.1 m < pd m)
def zRt (nm : Nat) (fm tt RL : Nat → Nat) (ro : Nat → Nat → Nat) (ad ot : Nat → Nat) : Prop := ∀ m, m < nm → zpt ad ot (ro m) (fm m) (RL m) = tt m
theorem zrcy_i {nm : Nat} {fm tt pd RL ad ot : Nat → Nat} {ro : Nat → Nat → Nat} {hc fb : Nat → Bool} {m w : Nat} {q : zQ} (h : zRi nm RL pd q) (ht : zRt nm fm tt RL ro ad ot) (hm : m < nm) (h0 : q.1 m = 0) : zRi nm RL pd (zrcy fm tt pd ro hc fb ad ot m w q) := by
  intro j hj
  obtain ⟨h1, h2⟩ := h j hj
  have hmm := (h m hm).2 h0
  unfold zrcy
  by_cases e : q.2.2.1 m + min (pd m - q.2.2.1 m) w = pd m
  · rw [if_pos e]
    dsimp only
    by_cases ej : j = m
    · subst ej
      refine ⟨fun z => by rw [if_pos rfl] at z; exact absurd z (by decide), fun z => ?_⟩
      unfold zud at z ⊢
      rw [if_pos rfl] at z ⊢
      rw [if_pos rfl]
      refine ⟨?_, by omega⟩
      split at z
      · exact absurd z (by decide)
      · split at z
        · exact absurd z (by decide)
        · rename_i hne
          have h7 := ht j hj
          have : q.2.1 j + 1 ≠ RL j := fun e2 => hne (by rw [e2]; exact h7)
          omega
    · unfold zud
      rw [if_neg ej, if_neg ej, if_neg ej, if_neg ej]
      exact ⟨h1, h2⟩
  · rw [if_neg e]
    dsimp only
    by_cases ej : j = m
    · subst ej
      refine ⟨h1, fun z => ⟨(h2 z).1, ?_⟩⟩
      unfold zud; rw [if_pos rfl]; omega
    · refine ⟨h1, fun z => ⟨(h2 z).1, ?_⟩⟩
      unfold zud; rw [if_neg ej]; exact (h2 z).2
def zrm1 (fm tt kd pd : Nat → Nat) (ro : Nat → Nat → Nat) (hc fb : Nat → Bool) (ad ot : Nat → Nat) (c kind m : Nat) (s : zQ × Nat) : zQ × Nat :=
  if 0 < s.2 ∧ s.1.2.2.2.1 m = true ∧ kd m = kind ∧ s.1.1 m = 0 ∧ ro m (s.1.2.1 m) = c then (zrcy fm tt pd ro hc fb ad ot m s.2 s.1, s.2 - min (pd m - s.1.2.2.1 m) s.2) else s
def zrmf (fm tt kd pd : Nat → Nat) (ro : Nat → Nat → Nat) (hc fb : Nat → Bool) (ad ot : Nat → Nat) (c kind : Nat) (s : zQ × Nat) : Nat → zQ × Nat
  | 0 => s
  | m + 1 => zrm1 fm tt kd pd ro hc fb ad ot c kind m (zrmf fm tt kd pd ro hc fb ad ot c kind s m)
def zrkf (fm tt kd pd : Nat → Nat) (ro : Nat → Nat → Nat) (hc fb : Nat → Bool) (ad ot : Nat → Nat) (nm c : Nat) (s : zQ × Nat) : Nat → zQ × Nat
  | 0 => s
  | j + 1 => zrmf fm tt kd pd ro hc fb ad ot c (2 - j) (zrkf fm tt kd pd ro hc fb ad ot nm c s j) nm
def zrcf (fm tt kd pd : Nat → Nat) (ro : Nat → Nat → Nat) (hc fb : Nat → Bool) (ad ot sp : Nat → Nat) (br : Nat → Bool) (nm : Nat) (q : zQ) : Nat → zQ
  | 0 => q
  | c + 1 => (zrkf fm tt kd pd ro hc fb ad ot nm c (zrcf fm tt kd pd ro hc fb ad ot sp br nm q c, if br c then 0 else sp c) 3).1
def zri (nm : Nat) (q : zQ) : zQ := (q.1, q.2.1, q.2.2.1, (fun m => if m < nm then decide (q.1 m = 0) else q.2.2.2.1 m), q.2.2.2.2)
theorem zrmf_0 {fm tt kd pd ad ot : Nat → Nat} {ro : Nat → Nat → Nat} {hc fb : Nat → Bool} {c kind m : Nat} {s : zQ × Nat} (h : (zrmf fm tt kd pd ro hc fb ad ot c kind s m).2 = 0) : ∀ k, zrmf fm tt kd pd ro hc fb ad ot c kind s (m + k) = zrmf fm tt kd pd ro hc fb ad ot c kind s m
  | 0 => rfl
  | k + 1 => by
    have h1 := zrmf_0 h k
    show zrm1 fm tt kd pd ro hc fb ad ot c kind (m + k) (zrmf fm tt kd pd ro hc fb ad ot c kind s (m + k)) = _
    rw [h1]
    unfold zrm1
    rw [if_neg (fun q => by omega)]
set_option maxHeartbeats 4000000 in
set_option maxRecDepth 100000 in
theorem tX9_carries {l : Launch} {D : va_G} {cy : Nat → ClassId} {z0 : Nat} {g : zSh} {σ : zIn} {nm no nc : Nat} {fm tt kd pd RL ad ot rt sp : Nat → Nat} {ro : Nat → Nat → Nat} {hc fb br : Nat → Bool} {q : zQ} (hS : zS g) (hnc : σ 21 10 = nI nc) (hn12 : nc ≤ 12) (hn8 : no ≤ 8) (hnm : σ 21 27 = nI nm) (hn60 : nm ≤ 60) (hCR : zCR σ nc no ad ot rt sp br) (hRs : zRs σ nm no nc fm tt kd pd RL ro hc fb ad ot) (hRd : zRd σ nm q) (hRi : zRi nm RL pd q) (hRt : zRt nm fm tt RL ro ad ot) (hst2 : ∀ m, m < nm → q.1 m ≤ 2) : z_Ct l D cy z0 MX9_carries [.ref (g.2.1 21)] g σ (fun v g' σ' => v = none ∧ g' = g ∧ zRF nm σ σ' ∧ zRd σ' nm (zrcf fm tt kd pd ro hc fb ad ot sp br nm (zri nm q) nc) ∧ zRi nm RL pd (zrcf fm tt kd pd ro hc fb ad ot sp br nm (zri nm q) nc)) := by
  refine z_ofM (by decide) (z_cr z_c0) (Nat.le_of_ble_eq_true rfl) ?_
  intro p e s m args below meth c X
  have loop_2 : ∀ (n : Nat) (m9 : Nat) (v2 v3 v4 v5 : Option Value) (τ : zIn) (hm : m9 ≤ nm) (hF : zRF nm σ τ) (hRd : zRd τ nm (zri m9 q)) (hn : nm - m9 < n), z_V p l e (zRm MX9_carries) s m args below meth c 6 D cy z0 0 0 (zQm MX9_carries below D cy z0 (fun v g' σ' => v = none ∧ g' = g ∧ zRF nm σ σ' ∧ zRd σ' nm (zrcf fm tt kd pd ro hc fb ad ot sp br nm (zri nm q) nc) ∧ zRi nm RL pd (zrcf fm tt kd pd ro hc fb ad ot sp br nm (zri nm q) nc)) args s) 2 [some (.ref (g.2.1 21)), some (.int (nI m9)), v2, v3, v4, v5] [] g τ := by
    intro n
    induction n with
    | zero => intro m9 v2 v3 v4 v5 τ hm hF hRd hn; exact absurd hn (Nat.not_lt_zero _)
    | succ n ih_2 =>
      intro m9 v2 v3 v4 v5 τ hm hF hRd hn
      have hCRτ := zCR_F hCR hF
      have hRsτ := zRs_F hRs hF
      have h21 : ∀ k, τ 21 k = σ 21 k := fun k => by rw [hF.1 21 (by decide) (by decide) (by decide) (by decide) (by decide)]
      have hnmτ : τ 21 27 = nI nm := (h21 27).trans hnm
      have hncτ : τ 21 10 = nI nc := (h21 10).trans hnc
      refine z_iload_n X dX9_carries_2 rfl ?_
      refine z_aload_n X dX9_carries_3 rfl ?_
      refine z_geti X fX9_139 (zso_21 hS) rfl dX9_carries_4 ?_
      rw [hnmτ]
      refine z_icmp_ge (tgt := 36) X dX9_carries_7 (by decide) (fun c_7 => ?_) (fun c_7 => ?_)
      · skip
        try simp (disch := omega) only [zk0, nI_leI, nI_ltI, nI_eq, zbk_notn, zbk_not, zbk_n0, zbk_0, zb_0, zb_n0, zb_not, zb_notn, Bool.not_eq_false, Bool.not_eq_true, Bool.not_eq_true', Bool.not_eq_false', decide_eq_true_eq, decide_eq_false_iff_not, Classical.not_not] at c_7
        have e : nm = m9 := by omega
        subst e
        have hRd0 : zRd τ nm (zrcf fm tt kd pd ro hc fb ad ot sp br nm (zri nm q) 0) := hRd
        have hRi0 : zRi nm RL pd (zrcf fm tt kd pd ro hc fb ad ot sp br nm (zri nm q) 0) := fun m hm => ⟨fun z => by have z2 : (if m < nm then decide (q.1 m = 0) else q.2.2.2.1 m) = true := z; rw [if_pos hm] at z2; exact of_decide_eq_true z2, (hRi m hm).2⟩
        have loop_38 : ∀ (n : Nat) (c9 : Nat) (v2 v3 v4 v5 : Option Value) (τ : zIn) (hcl : c9 ≤ nc) (hF : zRF nm σ τ) (hRd : zRd τ nm (zrcf fm tt kd pd ro hc fb ad ot sp br nm (zri nm q) c9)) (hRi : zRi nm RL pd (zrcf fm tt kd pd ro hc fb ad ot sp br nm (zri nm q) c9)) (hn : nc - c9 < n), z_V p l e (zRm MX9_carries) s m args below meth c 6 D cy z0 0 0 (zQm MX9_carries below D cy z0 (fun v g' σ' => v = none ∧ g' = g ∧ zRF nm σ σ' ∧ zRd σ' nm (zrcf fm tt kd pd ro hc fb ad ot sp br nm (zri nm q) nc) ∧ zRi nm RL pd (zrcf fm tt kd pd ro hc fb ad ot sp br nm (zri nm q) nc)) args s) 38 [some (.ref (g.2.1 21)), some (.int (nI c9)), v2, v3, v4, v5] [] g τ := by
          intro n
          induction n with
          | zero => intro c9 v2 v3 v4 v5 τ hcl hF hRd hRi hn; exact absurd hn (Nat.not_lt_zero _)
          | succ n ih_38 =>
            intro c9 v2 v3 v4 v5 τ hcl hF hRd hRi hn
            have hCRτ := zCR_F hCR hF
            have hRsτ := zRs_F hRs hF
            have h21 : ∀ k, τ 21 k = σ 21 k := fun k => by rw [hF.1 21 (by decide) (by decide) (by decide) (by decide) (by decide)]
            have hnmτ : τ 21 27 = nI nm := (h21 27).trans hnm
            have hncτ : τ 21 10 = nI nc := (h21 10).trans hnc
            refine z_iload_n X dX9_carries_38 rfl ?_
            refine z_aload_n X dX9_carries_39 rfl ?_
            refine z_geti X fX9_136 (zso_21 hS) rfl dX9_carries_40 ?_
            rw [hncτ]
            refine z_icmp_ge (tgt := 163) X dX9_carries_43 (by decide) (fun c_43 => ?_) (fun c_43 => ?_)
            · skip
              try simp (disch := omega) only [zk0, nI_leI, nI_ltI, nI_eq, zbk_notn, zbk_not, zbk_n0, zbk_0, zb_0, zb_n0, zb_not, zb_notn, Bool.not_eq_false, Bool.not_eq_true, Bool.not_eq_true', Bool.not_eq_false', decide_eq_true_eq, decide_eq_false_iff_not, Classical.not_not] at c_43
              refine z_vret X (by decide) (by decide) rfl dX9_carries_163 ?_
              have e : nc = c9 := by omega
              subst e
              exact ⟨rfl, rfl, hF, hRd, hRi⟩
            · skip
              try simp (disch := omega) only [zk0, nI_leI, nI_ltI, nI_eq, zbk_notn, zbk_not, zbk_n0, zbk_0, zb_0, zb_n0, zb_not, zb_notn, Bool.not_eq_false, Bool.not_eq_true, Bool.not_eq_true', Bool.not_eq_false', decide_eq_true_eq, decide_eq_false_iff_not, Classical.not_not] at c_43
              obtain ⟨k1, k2, k3, k4, k5, k6, k7, k8, k9, k10, k11, k12⟩ := hCRτ c9 (by omega)
              refine z_aload_n X dX9_carries_46 rfl ?_
              refine z_getr2 X fX9_44 (zso_21 hS) (zsr_21_15 hS) rfl dX9_carries_47 ?_
              refine z_iload_n X dX9_carries_50 rfl ?_
              refine z_zaldN X (zsa_33 hS) (by omega) (by omega) dX9_carries_51 ?_
              rw [k12]
              refine z_if_eq (tgt := 59) X dX9_carries_52 (by decide) (fun c_52 => ?_) (fun c_52 => ?_)
              · skip
                try simp (disch := omega) only [zb_notn, zb_not, zb_n0, zb_0, Bool.not_eq_false, Bool.not_eq_true, Bool.not_eq_true', Bool.not_eq_false', decide_eq_true_eq, decide_eq_false_iff_not, Classical.not_not] at c_52
                refine z_aload_n X dX9_carries_59 rfl ?_
                refine z_getr2 X fX9_41 (zso_21 hS) (zsr_21_14 hS) rfl dX9_carries_60 ?_
                refine z_iload_n X dX9_carries_63 rfl ?_
                refine z_ialdN X (zsa_32 hS) (by omega) (by omega) dX9_carries_64 ?_
                try rw [k9]
                refine z_istore_n X dX9_carries_65 (by decide) ?_
                have loop_68 : ∀ (n : Nat) (j9 w9 : Nat) (v4 v5 : Option Value) (q9 : zQ) (τ : zIn) (hj : j9 ≤ 3) (hw : w9 ≤ 20) (hF : zRF nm σ τ) (hRd : zRd τ nm q9) (hRi : zRi nm RL pd q9) (hfo : zrkf fm tt kd pd ro hc fb ad ot nm c9 ((zrcf fm tt kd pd ro hc fb ad ot sp br nm (zri nm q) c9), if br c9 then 0 else sp c9) (3 - j9) = (q9, w9)) (hn : j9 < n), z_V p l e (zRm MX9_carries) s m args below meth c 6 D cy z0 0 0 (zQm MX9_carries below D cy z0 (fun v g' σ' => v = none ∧ g' = g ∧ zRF nm σ σ' ∧ zRd σ' nm (zrcf fm tt kd pd ro hc fb ad ot sp br nm (zri nm q) nc) ∧ zRi nm RL pd (zrcf fm tt kd pd ro hc fb ad ot sp br nm (zri nm q) nc)) args s) 68 [some (.ref (g.2.1 21)), some (.int (nI c9)), some (.int (nI w9)), some (.int (nI j9 - 1)), v4, v5] [] g τ := by
                  intro n
                  induction n with
                  | zero => intro j9 w9 v4 v5 q9 τ hj hw hF hRd hRi hfo hn; exact absurd hn (Nat.not_lt_zero _)
                  | succ n ih_68 =>
                    intro j9 w9 v4 v5 q9 τ hj hw hF hRd hRi hfo hn
                    have hCRτ := zCR_F hCR hF
                    have hRsτ := zRs_F hRs hF
                    have h21 : ∀ k, τ 21 k = σ 21 k := fun k => by rw [hF.1 21 (by decide) (by decide) (by decide) (by decide) (by decide)]
                    have hnmτ : τ 21 27 = nI nm := (h21 27).trans hnm
                    have hncτ : τ 21 10 = nI nc := (h21 10).trans hnc
                    refine z_iload_n X dX9_carries_68 rfl ?_
                    refine z_if_lt (tgt := 157) X dX9_carries_69 (by decide) (fun c_69 => ?_) (fun c_69 => ?_)
                    · skip
                      refine z_inc1 X dX9_carries_157 rfl (by decide) ?_
                      refine z_goto (tgt := 38) X dX9_carries_160 (by decide) ?_
                      have hj0 := (zpm_lt (q := j9) (by omega)).mp c_69
                      subst hj0
                      exact ih_38 (c9 + 1) _ _ _ _ τ (by omega) hF (by show zRd τ nm (zrkf fm tt kd pd ro hc fb ad ot nm c9 ((zrcf fm tt kd pd ro hc fb ad ot sp br nm (zri nm q) c9), if br c9 then 0 else sp c9) 3).1; rw [hfo]; exact hRd) (by show zRi nm RL pd (zrkf fm tt kd pd ro hc fb ad ot nm c9 ((zrcf fm tt kd pd ro hc fb ad ot sp br nm (zri nm q) c9), if br c9 then 0 else sp c9) 3).1; rw [hfo]; exact hRi) (by omega)
                    · skip
                      have hj0 : j9 ≠ 0 := fun e => c_69 ((zpm_lt (by omega)).mpr e)
                      obtain ⟨k9, rfl⟩ : ∃ k9, j9 = k9 + 1 := ⟨j9 - 1, by omega⟩
                      rw [zpm_s]
                      rw [show 3 - (k9 + 1) = 2 - k9 by omega] at hfo
                      have loop_75 : ∀ (n : Nat) (m9 w9 : Nat) (v5 : Option Value) (q9 : zQ) (τ : zIn) (hm : m9 ≤ nm) (hw : w9 ≤ 20) (hF : zRF nm σ τ) (hRd : zRd τ nm q9) (hRi : zRi nm RL pd q9) (hfo : zrmf fm tt kd pd ro hc fb ad ot c9 k9 (zrkf fm tt kd pd ro hc fb ad ot nm c9 ((zrcf fm tt kd pd ro hc fb ad ot sp br nm (zri nm q) c9), if br c9 then 0 else sp c9) (2 - k9)) m9 = (q9, w9)) (hn : nm - m9 < n), z_V p l e (zRm MX9_carries) s m args below meth c 6 D cy z0 0 0 (zQm MX9_carries below D cy z0 (fun v g' σ' => v = none ∧ g' = g ∧ zRF nm σ σ' ∧ zRd σ' nm (zrcf fm tt kd pd ro hc fb ad ot sp br nm (zri nm q) nc) ∧ zRi nm RL pd (zrcf fm tt kd pd ro hc fb ad ot sp br nm (zri nm q) nc)) args s) 75 [some (.ref (g.2.1 21)), some (.int (nI c9)), some (.int (nI w9)), some (.int (nI k9)), some (.int (nI m9)), v5] [] g τ := by
                        intro n
                        induction n with
                        | zero => intro m9 w9 v5 q9 τ hm hw hF hRd hRi hfo hn; exact absurd hn (Nat.not_lt_zero _)
                        | succ n ih_75 =>
                          intro m9 w9 v5 q9 τ hm hw hF hRd hRi hfo hn
                          have hCRτ := zCR_F hCR hF
                          have hRsτ := zRs_F hRs hF
                          have h21 : ∀ k, τ 21 k = σ 21 k := fun k => by rw [hF.1 21 (by decide) (by decide) (by decide) (by decide) (by decide)]
                          have hnmτ : τ 21 27 = nI nm := (h21 27).trans hnm
                          have hncτ : τ 21 10 = nI nc := (h21 10).trans hnc
                          refine z_iload X dX9_carries_75 rfl ?_
                          refine z_aload_n X dX9_carries_77 rfl ?_
                          refine z_geti X fX9_139 (zso_21 hS) rfl dX9_carries_78 ?_
                          rw [hnmτ]
                          refine z_icmp_ge (tgt := 151) X dX9_carries_81 (by decide) (fun c_81 => ?_) (fun c_81 => ?_)
                          · skip
                            try simp (disch := omega) only [zk0, nI_leI, nI_ltI, nI_eq, zbk_notn, zbk_not, zbk_n0, zbk_0, zb_0, zb_n0, zb_not, zb_notn, Bool.not_eq_false, Bool.not_eq_true, Bool.not_eq_true', Bool.not_eq_false', decide_eq_true_eq, decide_eq_false_iff_not, Classical.not_not] at c_81
                            refine z_iinc (v := -1) X dX9_carries_151 rfl (by decide) (by decide) ?_
                            refine z_goto (tgt := 68) X dX9_carries_154 (by decide) ?_
                            rw [zpm_m]
                            have hlast : zrmf fm tt kd pd ro hc fb ad ot c9 k9 (zrkf fm tt kd pd ro hc fb ad ot nm c9 ((zrcf fm tt kd pd ro hc fb ad ot sp br nm (zri nm q) c9), if br c9 then 0 else sp c9) (2 - k9)) nm = (q9, w9) := by
                              first
                              | (have e9 : nm = m9 := by omega
                                 subst e9
                                 exact hfo)
                              | (have h0 := zrmf_0 (s := zrkf fm tt kd pd ro hc fb ad ot nm c9 ((zrcf fm tt kd pd ro hc fb ad ot sp br nm (zri nm q) c9), if br c9 then 0 else sp c9) (2 - k9)) (c := c9) (kind := k9) (m := m9) (fm := fm) (tt := tt) (kd := kd) (pd := pd) (ro := ro) (hc := hc) (fb := fb) (ad := ad) (ot := ot) (by rw [hfo]; show w9 = 0; omega) (nm - m9)
                                 rw [show m9 + (nm - m9) = nm by omega] at h0
                                 rw [h0]; exact hfo)
                            exact ih_68 k9 w9 _ _ q9 τ (by omega) hw hF hRd hRi (by rw [show 3 - k9 = (2 - k9) + 1 by omega]; show zrmf fm tt kd pd ro hc fb ad ot c9 (2 - (2 - k9)) (zrkf fm tt kd pd ro hc fb ad ot nm c9 ((zrcf fm tt kd pd ro hc fb ad ot sp br nm (zri nm q) c9), if br c9 then 0 else sp c9) (2 - k9)) nm = _; rw [show 2 - (2 - k9) = k9 by omega]; exact hlast) (by omega)
                          · skip
                            try simp (disch := omega) only [zk0, nI_leI, nI_ltI, nI_eq, zbk_notn, zbk_not, zbk_n0, zbk_0, zb_0, zb_n0, zb_not, zb_notn, Bool.not_eq_false, Bool.not_eq_true, Bool.not_eq_true', Bool.not_eq_false', decide_eq_true_eq, decide_eq_false_iff_not, Classical.not_not] at c_81
                            refine z_iload_n X dX9_carries_84 rfl ?_
                            refine z_if_le (tgt := 151) X dX9_carries_85 (by decide) (fun c_85 => ?_) (fun c_85 => ?_)
                            · skip
                              try simp (disch := omega) only [zk0, nI_leI, nI_ltI, nI_eq, zbk_notn, zbk_not, zbk_n0, zbk_0, zb_0, zb_n0, zb_not, zb_notn, Bool.not_eq_false, Bool.not_eq_true, Bool.not_eq_true', Bool.not_eq_false', decide_eq_true_eq, decide_eq_false_iff_not, Classical.not_not] at c_85
                              refine z_iinc (v := -1) X dX9_carries_151 rfl (by decide) (by decide) ?_
                              refine z_goto (tgt := 68) X dX9_carries_154 (by decide) ?_
                              rw [zpm_m]
                              have hlast : zrmf fm tt kd pd ro hc fb ad ot c9 k9 (zrkf fm tt kd pd ro hc fb ad ot nm c9 ((zrcf fm tt kd pd ro hc fb ad ot sp br nm (zri nm q) c9), if br c9 then 0 else sp c9) (2 - k9)) nm = (q9, w9) := by
                                first
                                | (have e9 : nm = m9 := by omega
                                   subst e9
                                   exact hfo)
                                | (have h0 := zrmf_0 (s := zrkf fm tt kd pd ro hc fb ad ot nm c9 ((zrcf fm tt kd pd ro hc fb ad ot sp br nm (zri nm q) c9), if br c9 then 0 else sp c9) (2 - k9)) (c := c9) (kind := k9) (m := m9) (fm := fm) (tt := tt) (kd := kd) (pd := pd) (ro := ro) (hc := hc) (fb := fb) (ad := ad) (ot := ot) (by rw [hfo]; show w9 = 0; omega) (nm - m9)
                                   rw [show m9 + (nm - m9) = nm by omega] at h0
                                   rw [h0]; exact hfo)
                              exact ih_68 k9 w9 _ _ q9 τ (by omega) hw hF hRd hRi (by rw [show 3 - k9 = (2 - k9) + 1 by omega]; show zrmf fm tt kd pd ro hc fb ad ot c9 (2 - (2 - k9)) (zrkf fm tt kd pd ro hc fb ad ot nm c9 ((zrcf fm tt kd pd ro hc fb ad ot sp br nm (zri nm q) c9), if br c9 then 0 else sp c9) (2 - k9)) nm = _; rw [show 2 - (2 - k9) = k9 by omega]; exact hlast) (by omega)
                            · skip
                              try simp (disch := omega) only [zk0, nI_leI, nI_ltI, nI_eq, zbk_notn, zbk_not, zbk_n0, zbk_0, zb_0, zb_n0, zb_not, zb_notn, Bool.not_eq_false, Bool.not_eq_true, Bool.not_eq_true', Bool.not_eq_false', decide_eq_true_eq, decide_eq_false_iff_not, Classical.not_not] at c_85
                              obtain ⟨h44, h54, h55, h56, h48⟩ := hRd m9 (by omega)
                              obtain ⟨⟨hfm, hfm2⟩, ⟨htt, htt2⟩, ⟨hkd, hkd2⟩, ⟨hpd, hpd1, hpd2⟩, hhc, hRL, hro⟩ := hRsτ.1 m9 (by omega)
                              obtain ⟨hi1, hi2⟩ := hRi m9 (by omega)
                              refine z_aload_n X dX9_carries_88 rfl ?_
                              refine z_getr2 X fX9_113 (zso_21 hS) (zsr_21_43 hS) rfl dX9_carries_89 ?_
                              refine z_iload X dX9_carries_92 rfl ?_
                              refine z_zaldN X (zsa_56 hS) (by omega) (by omega) dX9_carries_94 ?_
                              rw [h56]
                              refine z_if_eq (tgt := 123) X dX9_carries_95 (by decide) (fun c_95 => ?_) (fun c_95 => ?_)
                              · skip
                                try simp (disch := omega) only [zb_notn, zb_not, zb_n0, zb_0, Bool.not_eq_false, Bool.not_eq_true, Bool.not_eq_true', Bool.not_eq_false', decide_eq_true_eq, decide_eq_false_iff_not, Classical.not_not] at c_95
                                have hN : ¬ (0 < w9 ∧ q9.2.2.2.1 m9 = true ∧ kd m9 = k9 ∧ q9.1 m9 = 0 ∧ ro m9 (q9.2.1 m9) = c9) := fun z => by first | exact absurd z.2.1 (by rw [c_95]; decide) | (have z2 := z.2.2.1; omega) | (have z2 := z.2.2.2.2; omega)
                                refine z_iconst (v := nI 0) X (by decide) dX9_carries_123 ?_
                                refine z_istore X dX9_carries_124 (by decide) ?_
                                refine z_iload_n X dX9_carries_126 rfl ?_
                                refine z_iload X dX9_carries_127 rfl ?_
                                refine z_if_eq (tgt := 142) X dX9_carries_129 (by decide) (fun c_129 => ?_) (fun c_129 => ?_)
                                · skip
                                  refine z_iconst (v := nI 0) X (by decide) dX9_carries_142 ?_
                                  refine z_isubN X (by omega) dX9_carries_143 ?_
                                  refine z_istore_n X dX9_carries_144 (by decide) ?_
                                  refine z_inc1 X dX9_carries_145 rfl (by decide) ?_
                                  refine z_goto (tgt := 75) X dX9_carries_148 (by decide) ?_
                                  have hstep : zrmf fm tt kd pd ro hc fb ad ot c9 k9 (zrkf fm tt kd pd ro hc fb ad ot nm c9 ((zrcf fm tt kd pd ro hc fb ad ot sp br nm (zri nm q) c9), if br c9 then 0 else sp c9) (2 - k9)) (m9 + 1) = zrm1 fm tt kd pd ro hc fb ad ot c9 k9 m9 (q9, w9) := by show zrm1 fm tt kd pd ro hc fb ad ot c9 k9 m9 (zrmf fm tt kd pd ro hc fb ad ot c9 k9 (zrkf fm tt kd pd ro hc fb ad ot nm c9 ((zrcf fm tt kd pd ro hc fb ad ot sp br nm (zri nm q) c9), if br c9 then 0 else sp c9) (2 - k9)) m9) = _; rw [hfo]
                                  unfold zrm1 at hstep
                                  first
                                  | (rw [if_pos hY] at hstep
                                     exact ih_75 (m9 + 1) _ _ _ s9 (by omega) (by omega) (zRF_t hF hF9) hRd9 (zrcy_i hRi hRt (by omega) hY.2.2.2.1) hstep (by omega))
                                  | (rw [if_neg hN] at hstep
                                     exact ih_75 (m9 + 1) _ _ _ τ (by omega) (by omega) hF hRd hRi hstep (by omega))
                                · first | exact absurd c_129 (by decide) | exact absurd (by decide) c_129
                              · skip
                                try simp (disch := omega) only [zb_notn, zb_not, zb_n0, zb_0, Bool.not_eq_false, Bool.not_eq_true, Bool.not_eq_true', Bool.not_eq_false', decide_eq_true_eq, decide_eq_false_iff_not, Classical.not_not] at c_95
                                refine z_aload_n X dX9_carries_98 rfl ?_
                                refine z_getr2 X fX9_74 (zso_21 hS) (zsr_21_30 hS) rfl dX9_carries_99 ?_
                                refine z_iload X dX9_carries_102 rfl ?_
                                refine z_ialdN X (zsa_43 hS) (by omega) (by omega) dX9_carries_104 ?_
                                rw [hkd]
                                refine z_iload_n X dX9_carries_105 rfl ?_
                                refine z_icmp_ne (tgt := 123) X dX9_carries_106 (by decide) (fun c_106 => ?_) (fun c_106 => ?_)
                                · skip
                                  try simp (disch := omega) only [zk0, nI_leI, nI_ltI, nI_eq, zbk_notn, zbk_not, zbk_n0, zbk_0, zb_0, zb_n0, zb_not, zb_notn, Bool.not_eq_false, Bool.not_eq_true, Bool.not_eq_true', Bool.not_eq_false', decide_eq_true_eq, decide_eq_false_iff_not, Classical.not_not] at c_106
                                  have hN : ¬ (0 < w9 ∧ q9.2.2.2.1 m9 = true ∧ kd m9 = k9 ∧ q9.1 m9 = 0 ∧ ro m9 (q9.2.1 m9) = c9) := fun z => by first | exact absurd z.2.1 (by rw [c_95]; decide) | (have z2 := z.2.2.1; omega) | (have z2 := z.2.2.2.2; omega)
                                  refine z_iconst (v := nI 0) X (by decide) dX9_carries_123 ?_
                                  refine z_istore X dX9_carries_124 (by decide) ?_
                                  refine z_iload_n X dX9_carries_126 rfl ?_
                                  refine z_iload X dX9_carries_127 rfl ?_
                                  refine z_if_eq (tgt := 142) X dX9_carries_129 (by decide) (fun c_129 => ?_) (fun c_129 => ?_)
                                  · skip
                                    refine z_iconst (v := nI 0) X (by decide) dX9_carries_142 ?_
                                    refine z_isubN X (by omega) dX9_carries_143 ?_
                                    refine z_istore_n X dX9_carries_144 (by decide) ?_
                                    refine z_inc1 X dX9_carries_145 rfl (by decide) ?_
                                    refine z_goto (tgt := 75) X dX9_carries_148 (by decide) ?_
                                    have hstep : zrmf fm tt kd pd ro hc fb ad ot c9 k9 (zrkf fm tt kd pd ro hc fb ad ot nm c9 ((zrcf fm tt kd pd ro hc fb ad ot sp br nm (zri nm q) c9), if br c9 then 0 else sp c9) (2 - k9)) (m9 + 1) = zrm1 fm tt kd pd ro hc fb ad ot c9 k9 m9 (q9, w9) := by show zrm1 fm tt kd pd ro hc fb ad ot c9 k9 m9 (zrmf fm tt kd pd ro hc fb ad ot c9 k9 (zrkf fm tt kd pd ro hc fb ad ot nm c9 ((zrcf fm tt kd pd ro hc fb ad ot sp br nm (zri nm q) c9), if br c9 then 0 else sp c9) (2 - k9)) m9) = _; rw [hfo]
                                    unfold zrm1 at hstep
                                    first
                                    | (rw [if_pos hY] at hstep
                                       exact ih_75 (m9 + 1) _ _ _ s9 (by omega) (by omega) (zRF_t hF hF9) hRd9 (zrcy_i hRi hRt (by omega) hY.2.2.2.1) hstep (by omega))
                                    | (rw [if_neg hN] at hstep
                                       exact ih_75 (m9 + 1) _ _ _ τ (by omega) (by omega) hF hRd hRi hstep (by omega))
                                  · first | exact absurd c_129 (by decide) | exact absurd (by decide) c_129
                                · skip
                                  try simp (disch := omega) only [zk0, nI_leI, nI_ltI, nI_eq, zbk_notn, zbk_not, zbk_n0, zbk_0, zb_0, zb_n0, zb_not, zb_notn, Bool.not_eq_false, Bool.not_eq_true, Bool.not_eq_true', Bool.not_eq_false', decide_eq_true_eq, decide_eq_false_iff_not, Classical.not_not] at c_106
                                  have hs0 := hi1 c_95
                                  have hi3 := hi2 hs0
                                  have hz44 : τ 44 m9 = 0 := by rw [h44, hs0]; rfl
                                  have hzm : zmc τ m9 = nI (ro m9 (q9.2.1 m9)) := by unfold zmc; rw [if_pos hz44, h54, zn_nI (by omega)]; exact (hro _ hi3.1).1
                                  have hrc := (hro _ hi3.1).2.1
                                  refine z_aload_n X dX9_carries_109 rfl ?_
                                  refine z_iload X dX9_carries_110 rfl ?_
                                  refine z_runV X kX9_190 (tX9_cableOf m9 hS (by omega) (fun _ => ⟨_, by omega, h54⟩)) (zso_21 hS) rfl rfl (Nat.le_of_ble_eq_true rfl) ⟨by decide, by decide⟩ ⟨by decide, by decide⟩ dX9_carries_112 ?_
                                  rintro _ g1 s1 ⟨rfl, h8, h9⟩
                                  replace h8 := h8.symm
                                  subst h8
                                  replace h9 := h9.symm
                                  subst h9
                                  rw [hzm]
                                  refine z_iload_n X dX9_carries_115 rfl ?_
                                  refine z_icmp_ne (tgt := 123) X dX9_carries_116 (by decide) (fun c_116 => ?_) (fun c_116 => ?_)
                                  · skip
                                    try simp (disch := omega) only [zk0, nI_leI, nI_ltI, nI_eq, zbk_notn, zbk_not, zbk_n0, zbk_0, zb_0, zb_n0, zb_not, zb_notn, Bool.not_eq_false, Bool.not_eq_true, Bool.not_eq_true', Bool.not_eq_false', decide_eq_true_eq, decide_eq_false_iff_not, Classical.not_not] at c_116
                                    have hN : ¬ (0 < w9 ∧ q9.2.2.2.1 m9 = true ∧ kd m9 = k9 ∧ q9.1 m9 = 0 ∧ ro m9 (q9.2.1 m9) = c9) := fun z => by first | exact absurd z.2.1 (by rw [c_95]; decide) | (have z2 := z.2.2.1; omega) | (have z2 := z.2.2.2.2; omega)
                                    refine z_iconst (v := nI 0) X (by decide) dX9_carries_123 ?_
                                    refine z_istore X dX9_carries_124 (by decide) ?_
                                    refine z_iload_n X dX9_carries_126 rfl ?_
                                    refine z_iload X dX9_carries_127 rfl ?_
                                    refine z_if_eq (tgt := 142) X dX9_carries_129 (by decide) (fun c_129 => ?_) (fun c_129 => ?_)
                                    · skip
                                      refine z_iconst (v := nI 0) X (by decide) dX9_carries_142 ?_
                                      refine z_isubN X (by omega) dX9_carries_143 ?_
                                      refine z_istore_n X dX9_carries_144 (by decide) ?_
                                      refine z_inc1 X dX9_carries_145 rfl (by decide) ?_
                                      refine z_goto (tgt := 75) X dX9_carries_148 (by decide) ?_
                                      have hstep : zrmf fm tt kd pd ro hc fb ad ot c9 k9 (zrkf fm tt kd pd ro hc fb ad ot nm c9 ((zrcf fm tt kd pd ro hc fb ad ot sp br nm (zri nm q) c9), if br c9 then 0 else sp c9) (2 - k9)) (m9 + 1) = zrm1 fm tt kd pd ro hc fb ad ot c9 k9 m9 (q9, w9) := by show zrm1 fm tt kd pd ro hc fb ad ot c9 k9 m9 (zrmf fm tt kd pd ro hc fb ad ot c9 k9 (zrkf fm tt kd pd ro hc fb ad ot nm c9 ((zrcf fm tt kd pd ro hc fb ad ot sp br nm (zri nm q) c9), if br c9 then 0 else sp c9) (2 - k9)) m9) = _; rw [hfo]
                                      unfold zrm1 at hstep
                                      first
                                      | (rw [if_pos hY] at hstep
                                         exact ih_75 (m9 + 1) _ _ _ s9 (by omega) (by omega) (zRF_t hF hF9) hRd9 (zrcy_i hRi hRt (by omega) hY.2.2.2.1) hstep (by omega))
                                      | (rw [if_neg hN] at hstep
                                         exact ih_75 (m9 + 1) _ _ _ τ (by omega) (by omega) hF hRd hRi hstep (by omega))
                                    · first | exact absurd c_129 (by decide) | exact absurd (by decide) c_129
                                  · skip
                                    try simp (disch := omega) only [zk0, nI_leI, nI_ltI, nI_eq, zbk_notn, zbk_not, zbk_n0, zbk_0, zb_0, zb_n0, zb_not, zb_notn, Bool.not_eq_false, Bool.not_eq_true, Bool.not_eq_true', Bool.not_eq_false', decide_eq_true_eq, decide_eq_false_iff_not, Classical.not_not] at c_116
                                    have hY : 0 < w9 ∧ q9.2.2.2.1 m9 = true ∧ kd m9 = k9 ∧ q9.1 m9 = 0 ∧ ro m9 (q9.2.1 m9) = c9 := ⟨by omega, c_95, by omega, hs0, by omega⟩
                                    refine z_iconst (v := nI 1) X (by decide) dX9_carries_119 ?_
                                    refine z_goto (tgt := 124) X dX9_carries_120 (by decide) ?_
                                    refine z_istore X dX9_carries_124 (by decide) ?_
                                    refine z_iload_n X dX9_carries_126 rfl ?_
                                    refine z_iload X dX9_carries_127 rfl ?_
                                    refine z_if_eq (tgt := 142) X dX9_carries_129 (by decide) (fun c_129 => ?_) (fun c_129 => ?_)
                                    · first | exact absurd c_129 (by decide) | exact absurd (by decide) c_129
                                    · skip
                                      refine z_aload_n X dX9_carries_132 rfl ?_
                                      refine z_iload X dX9_carries_133 rfl ?_
                                      refine z_iload_n X dX9_carries_135 rfl ?_
                                      refine z_runV X kX9_266 (tX9_carry (q := q9) m9 w9 hS hn12 hn8 hn60 hCRτ hRsτ hRd (by omega) hi3.1 (by omega) (by omega)) (zso_21 hS) rfl rfl (Nat.le_of_ble_eq_true rfl) ⟨by decide, by decide⟩ ⟨by decide, by decide⟩ dX9_carries_136 ?_
                                      rintro _ g1 s9 ⟨rfl, h8, hF9, hRd9⟩
                                      replace h8 := h8.symm
                                      subst h8
                                      refine z_goto (tgt := 143) X dX9_carries_139 (by decide) ?_
                                      refine z_isubN X (by omega) dX9_carries_143 ?_
                                      refine z_istore_n X dX9_carries_144 (by decide) ?_
                                      refine z_inc1 X dX9_carries_145 rfl (by decide) ?_
                                      refine z_goto (tgt := 75) X dX9_carries_148 (by decide) ?_
                                      have hstep : zrmf fm tt kd pd ro hc fb ad ot c9 k9 (zrkf fm tt kd pd ro hc fb ad ot nm c9 ((zrcf fm tt kd pd ro hc fb ad ot sp br nm (zri nm q) c9), if br c9 then 0 else sp c9) (2 - k9)) (m9 + 1) = zrm1 fm tt kd pd ro hc fb ad ot c9 k9 m9 (q9, w9) := by show zrm1 fm tt kd pd ro hc fb ad ot c9 k9 m9 (zrmf fm tt kd pd ro hc fb ad ot c9 k9 (zrkf fm tt kd pd ro hc fb ad ot nm c9 ((zrcf fm tt kd pd ro hc fb ad ot sp br nm (zri nm q) c9), if br c9 then 0 else sp c9) (2 - k9)) m9) = _; rw [hfo]
                                      unfold zrm1 at hstep
                                      first
                                      | (rw [if_pos hY] at hstep
                                         exact ih_75 (m9 + 1) _ _ _ s9 (by omega) (by omega) (zRF_t hF hF9) hRd9 (zrcy_i hRi hRt (by omega) hY.2.2.2.1) hstep (by omega))
                                      | (rw [if_neg hN] at hstep
                                         exact ih_75 (m9 + 1) _ _ _ τ (by omega) (by omega) hF hRd hRi hstep (by omega))
                      refine z_iconst (v := nI 0) X (by decide) dX9_carries_72 ?_
                      refine z_istore X dX9_carries_73 (by decide) ?_
                      exact loop_75 (nm - 0 + 1) 0 w9 _ q9 τ (Nat.zero_le _) hw hF hRd hRi hfo (by omega)
                refine z_iconst (v := nI 2) X (by decide) dX9_carries_66 ?_
                refine z_istore_n X dX9_carries_67 (by decide) ?_
                have e68 := fun v4 v5 => loop_68 (3 + 1) 3 (if br c9 then 0 else sp c9) v4 v5 (zrcf fm tt kd pd ro hc fb ad ot sp br nm (zri nm q) c9) τ (by omega) (by split <;> omega) hF hRd hRi rfl (by omega)
                rw [zpm_s (q := 2)] at e68
                first
                | (rw [c_52, if_pos rfl] at e68; exact e68 _ _)
                | (rw [c_52, if_neg (by decide)] at e68; exact e68 _ _)
              · skip
                try simp (disch := omega) only [zb_notn, zb_not, zb_n0, zb_0, Bool.not_eq_false, Bool.not_eq_true, Bool.not_eq_true', Bool.not_eq_false', decide_eq_true_eq, decide_eq_false_iff_not, Classical.not_not] at c_52
                refine z_iconst (v := nI 0) X (by decide) dX9_carries_55 ?_
                refine z_goto (tgt := 65) X dX9_carries_56 (by decide) ?_
                try rw [k9]
                refine z_istore_n X dX9_carries_65 (by decide) ?_
                have loop_68 : ∀ (n : Nat) (j9 w9 : Nat) (v4 v5 : Option Value) (q9 : zQ) (τ : zIn) (hj : j9 ≤ 3) (hw : w9 ≤ 20) (hF : zRF nm σ τ) (hRd : zRd τ nm q9) (hRi : zRi nm RL pd q9) (hfo : zrkf fm tt kd pd ro hc fb ad ot nm c9 ((zrcf fm tt kd pd ro hc fb ad ot sp br nm (zri nm q) c9), if br c9 then 0 else sp c9) (3 - j9) = (q9, w9)) (hn : j9 < n), z_V p l e (zRm MX9_carries) s m args below meth c 6 D cy z0 0 0 (zQm MX9_carries below D cy z0 (fun v g' σ' => v = none ∧ g' = g ∧ zRF nm σ σ' ∧ zRd σ' nm (zrcf fm tt kd pd ro hc fb ad ot sp br nm (zri nm q) nc) ∧ zRi nm RL pd (zrcf fm tt kd pd ro hc fb ad ot sp br nm (zri nm q) nc)) args s) 68 [some (.ref (g.2.1 21)), some (.int (nI c9)), some (.int (nI w9)), some (.int (nI j9 - 1)), v4, v5] [] g τ := by
                  intro n
                  induction n with
                  | zero => intro j9 w9 v4 v5 q9 τ hj hw hF hRd hRi hfo hn; exact absurd hn (Nat.not_lt_zero _)
                  | succ n ih_68 =>
                    intro j9 w9 v4 v5 q9 τ hj hw hF hRd hRi hfo hn
                    have hCRτ := zCR_F hCR hF
                    have hRsτ := zRs_F hRs hF
                    have h21 : ∀ k, τ 21 k = σ 21 k := fun k => by rw [hF.1 21 (by decide) (by decide) (by decide) (by decide) (by decide)]
                    have hnmτ : τ 21 27 = nI nm := (h21 27).trans hnm
                    have hncτ : τ 21 10 = nI nc := (h21 10).trans hnc
                    refine z_iload_n X dX9_carries_68 rfl ?_
                    refine z_if_lt (tgt := 157) X dX9_carries_69 (by decide) (fun c_69 => ?_) (fun c_69 => ?_)
                    · skip
                      refine z_inc1 X dX9_carries_157 rfl (by decide) ?_
                      refine z_goto (tgt := 38) X dX9_carries_160 (by decide) ?_
                      have hj0 := (zpm_lt (q := j9) (by omega)).mp c_69
                      subst hj0
                      exact ih_38 (c9 + 1) _ _ _ _ τ (by omega) hF (by show zRd τ nm (zrkf fm tt kd pd ro hc fb ad ot nm c9 ((zrcf fm tt kd pd ro hc fb ad ot sp br nm (zri nm q) c9), if br c9 then 0 else sp c9) 3).1; rw [hfo]; exact hRd) (by show zRi nm RL pd (zrkf fm tt kd pd ro hc fb ad ot nm c9 ((zrcf fm tt kd pd ro hc fb ad ot sp br nm (zri nm q) c9), if br c9 then 0 else sp c9) 3).1; rw [hfo]; exact hRi) (by omega)
                    · skip
                      have hj0 : j9 ≠ 0 := fun e => c_69 ((zpm_lt (by omega)).mpr e)
                      obtain ⟨k9, rfl⟩ : ∃ k9, j9 = k9 + 1 := ⟨j9 - 1, by omega⟩
                      rw [zpm_s]
                      rw [show 3 - (k9 + 1) = 2 - k9 by omega] at hfo
                      have loop_75 : ∀ (n : Nat) (m9 w9 : Nat) (v5 : Option Value) (q9 : zQ) (τ : zIn) (hm : m9 ≤ nm) (hw : w9 ≤ 20) (hF : zRF nm σ τ) (hRd : zRd τ nm q9) (hRi : zRi nm RL pd q9) (hfo : zrmf fm tt kd pd ro hc fb ad ot c9 k9 (zrkf fm tt kd pd ro hc fb ad ot nm c9 ((zrcf fm tt kd pd ro hc fb ad ot sp br nm (zri nm q) c9), if br c9 then 0 else sp c9) (2 - k9)) m9 = (q9, w9)) (hn : nm - m9 < n), z_V p l e (zRm MX9_carries) s m args below meth c 6 D cy z0 0 0 (zQm MX9_carries below D cy z0 (fun v g' σ' => v = none ∧ g' = g ∧ zRF nm σ σ' ∧ zRd σ' nm (zrcf fm tt kd pd ro hc fb ad ot sp br nm (zri nm q) nc) ∧ zRi nm RL pd (zrcf fm tt kd pd ro hc fb ad ot sp br nm (zri nm q) nc)) args s) 75 [some (.ref (g.2.1 21)), some (.int (nI c9)), some (.int (nI w9)), some (.int (nI k9)), some (.int (nI m9)), v5] [] g τ := by
                        intro n
                        induction n with
                        | zero => intro m9 w9 v5 q9 τ hm hw hF hRd hRi hfo hn; exact absurd hn (Nat.not_lt_zero _)
                        | succ n ih_75 =>
                          intro m9 w9 v5 q9 τ hm hw hF hRd hRi hfo hn
                          have hCRτ := zCR_F hCR hF
                          have hRsτ := zRs_F hRs hF
                          have h21 : ∀ k, τ 21 k = σ 21 k := fun k => by rw [hF.1 21 (by decide) (by decide) (by decide) (by decide) (by decide)]
                          have hnmτ : τ 21 27 = nI nm := (h21 27).trans hnm
                          have hncτ : τ 21 10 = nI nc := (h21 10).trans hnc
                          refine z_iload X dX9_carries_75 rfl ?_
                          refine z_aload_n X dX9_carries_77 rfl ?_
                          refine z_geti X fX9_139 (zso_21 hS) rfl dX9_carries_78 ?_
                          rw [hnmτ]
                          refine z_icmp_ge (tgt := 151) X dX9_carries_81 (by decide) (fun c_81 => ?_) (fun c_81 => ?_)
                          · skip
                            try simp (disch := omega) only [zk0, nI_leI, nI_ltI, nI_eq, zbk_notn, zbk_not, zbk_n0, zbk_0, zb_0, zb_n0, zb_not, zb_notn, Bool.not_eq_false, Bool.not_eq_true, Bool.not_eq_true', Bool.not_eq_false', decide_eq_true_eq, decide_eq_false_iff_not, Classical.not_not] at c_81
                            refine z_iinc (v := -1) X dX9_carries_151 rfl (by decide) (by decide) ?_
                            refine z_goto (tgt := 68) X dX9_carries_154 (by decide) ?_
                            rw [zpm_m]
                            have hlast : zrmf fm tt kd pd ro hc fb ad ot c9 k9 (zrkf fm tt kd pd ro hc fb ad ot nm c9 ((zrcf fm tt kd pd ro hc fb ad ot sp br nm (zri nm q) c9), if br c9 then 0 else sp c9) (2 - k9)) nm = (q9, w9) := by
                              first
                              | (have e9 : nm = m9 := by omega
                                 subst e9
                                 exact hfo)
                              | (have h0 := zrmf_0 (s := zrkf fm tt kd pd ro hc fb ad ot nm c9 ((zrcf fm tt kd pd ro hc fb ad ot sp br nm (zri nm q) c9), if br c9 then 0 else sp c9) (2 - k9)) (c := c9) (kind := k9) (m := m9) (fm := fm) (tt := tt) (kd := kd) (pd := pd) (ro := ro) (hc := hc) (fb := fb) (ad := ad) (ot := ot) (by rw [hfo]; show w9 = 0; omega) (nm - m9)
                                 rw [show m9 + (nm - m9) = nm by omega] at h0
                                 rw [h0]; exact hfo)
                            exact ih_68 k9 w9 _ _ q9 τ (by omega) hw hF hRd hRi (by rw [show 3 - k9 = (2 - k9) + 1 by omega]; show zrmf fm tt kd pd ro hc fb ad ot c9 (2 - (2 - k9)) (zrkf fm tt kd pd ro hc fb ad ot nm c9 ((zrcf fm tt kd pd ro hc fb ad ot sp br nm (zri nm q) c9), if br c9 then 0 else sp c9) (2 - k9)) nm = _; rw [show 2 - (2 - k9) = k9 by omega]; exact hlast) (by omega)
                          · skip
                            try simp (disch := omega) only [zk0, nI_leI, nI_ltI, nI_eq, zbk_notn, zbk_not, zbk_n0, zbk_0, zb_0, zb_n0, zb_not, zb_notn, Bool.not_eq_false, Bool.not_eq_true, Bool.not_eq_true', Bool.not_eq_false', decide_eq_true_eq, decide_eq_false_iff_not, Classical.not_not] at c_81
                            refine z_iload_n X dX9_carries_84 rfl ?_
                            refine z_if_le (tgt := 151) X dX9_carries_85 (by decide) (fun c_85 => ?_) (fun c_85 => ?_)
                            · skip
                              try simp (disch := omega) only [zk0, nI_leI, nI_ltI, nI_eq, zbk_notn, zbk_not, zbk_n0, zbk_0, zb_0, zb_n0, zb_not, zb_notn, Bool.not_eq_false, Bool.not_eq_true, Bool.not_eq_true', Bool.not_eq_false', decide_eq_true_eq, decide_eq_false_iff_not, Classical.not_not] at c_85
                              refine z_iinc (v := -1) X dX9_carries_151 rfl (by decide) (by decide) ?_
                              refine z_goto (tgt := 68) X dX9_carries_154 (by decide) ?_
                              rw [zpm_m]
                              have hlast : zrmf fm tt kd pd ro hc fb ad ot c9 k9 (zrkf fm tt kd pd ro hc fb ad ot nm c9 ((zrcf fm tt kd pd ro hc fb ad ot sp br nm (zri nm q) c9), if br c9 then 0 else sp c9) (2 - k9)) nm = (q9, w9) := by
                                first
                                | (have e9 : nm = m9 := by omega
                                   subst e9
                                   exact hfo)
                                | (have h0 := zrmf_0 (s := zrkf fm tt kd pd ro hc fb ad ot nm c9 ((zrcf fm tt kd pd ro hc fb ad ot sp br nm (zri nm q) c9), if br c9 then 0 else sp c9) (2 - k9)) (c := c9) (kind := k9) (m := m9) (fm := fm) (tt := tt) (kd := kd) (pd := pd) (ro := ro) (hc := hc) (fb := fb) (ad := ad) (ot := ot) (by rw [hfo]; show w9 = 0; omega) (nm - m9)
                                   rw [show m9 + (nm - m9) = nm by omega] at h0
                                   rw [h0]; exact hfo)
                              exact ih_68 k9 w9 _ _ q9 τ (by omega) hw hF hRd hRi (by rw [show 3 - k9 = (2 - k9) + 1 by omega]; show zrmf fm tt kd pd ro hc fb ad ot c9 (2 - (2 - k9)) (zrkf fm tt kd pd ro hc fb ad ot nm c9 ((zrcf fm tt kd pd ro hc fb ad ot sp br nm (zri nm q) c9), if br c9 then 0 else sp c9) (2 - k9)) nm = _; rw [show 2 - (2 - k9) = k9 by omega]; exact hlast) (by omega)
                            · skip
                              try simp (disch := omega) only [zk0, nI_leI, nI_ltI, nI_eq, zbk_notn, zbk_not, zbk_n0, zbk_0, zb_0, zb_n0, zb_not, zb_notn, Bool.not_eq_false, Bool.not_eq_true, Bool.not_eq_true', Bool.not_eq_false', decide_eq_true_eq, decide_eq_false_iff_not, Classical.not_not] at c_85
                              obtain ⟨h44, h54, h55, h56, h48⟩ := hRd m9 (by omega)
                              obtain ⟨⟨hfm, hfm2⟩, ⟨htt, htt2⟩, ⟨hkd, hkd2⟩, ⟨hpd, hpd1, hpd2⟩, hhc, hRL, hro⟩ := hRsτ.1 m9 (by omega)
                              obtain ⟨hi1, hi2⟩ := hRi m9 (by omega)
                              refine z_aload_n X dX9_carries_88 rfl ?_
                              refine z_getr2 X fX9_113 (zso_21 hS) (zsr_21_43 hS) rfl dX9_carries_89 ?_
                              refine z_iload X dX9_carries_92 rfl ?_
                              refine z_zaldN X (zsa_56 hS) (by omega) (by omega) dX9_carries_94 ?_
                              rw [h56]
                              refine z_if_eq (tgt := 123) X dX9_carries_95 (by decide) (fun c_95 => ?_) (fun c_95 => ?_)
                              · skip
                                try simp (disch := omega) only [zb_notn, zb_not, zb_n0, zb_0, Bool.not_eq_false, Bool.not_eq_true, Bool.not_eq_true', Bool.not_eq_false', decide_eq_true_eq, decide_eq_false_iff_not, Classical.not_not] at c_95
                                have hN : ¬ (0 < w9 ∧ q9.2.2.2.1 m9 = true ∧ kd m9 = k9 ∧ q9.1 m9 = 0 ∧ ro m9 (q9.2.1 m9) = c9) := fun z => by first | exact absurd z.2.1 (by rw [c_95]; decide) | (have z2 := z.2.2.1; omega) | (have z2 := z.2.2.2.2; omega)
                                refine z_iconst (v := nI 0) X (by decide) dX9_carries_123 ?_
                                refine z_istore X dX9_carries_124 (by decide) ?_
                                refine z_iload_n X dX9_carries_126 rfl ?_
                                refine z_iload X dX9_carries_127 rfl ?_
                                refine z_if_eq (tgt := 142) X dX9_carries_129 (by decide) (fun c_129 => ?_) (fun c_129 => ?_)
                                · skip
                                  refine z_iconst (v := nI 0) X (by decide) dX9_carries_142 ?_
                                  refine z_isubN X (by omega) dX9_carries_143 ?_
                                  refine z_istore_n X dX9_carries_144 (by decide) ?_
                                  refine z_inc1 X dX9_carries_145 rfl (by decide) ?_
                                  refine z_goto (tgt := 75) X dX9_carries_148 (by decide) ?_
                                  have hstep : zrmf fm tt kd pd ro hc fb ad ot c9 k9 (zrkf fm tt kd pd ro hc fb ad ot nm c9 ((zrcf fm tt kd pd ro hc fb ad ot sp br nm (zri nm q) c9), if br c9 then 0 else sp c9) (2 - k9)) (m9 + 1) = zrm1 fm tt kd pd ro hc fb ad ot c9 k9 m9 (q9, w9) := by show zrm1 fm tt kd pd ro hc fb ad ot c9 k9 m9 (zrmf fm tt kd pd ro hc fb ad ot c9 k9 (zrkf fm tt kd pd ro hc fb ad ot nm c9 ((zrcf fm tt kd pd ro hc fb ad ot sp br nm (zri nm q) c9), if br c9 then 0 else sp c9) (2 - k9)) m9) = _; rw [hfo]
                                  unfold zrm1 at hstep
                                  first
                                  | (rw [if_pos hY] at hstep
                                     exact ih_75 (m9 + 1) _ _ _ s9 (by omega) (by omega) (zRF_t hF hF9) hRd9 (zrcy_i hRi hRt (by omega) hY.2.2.2.1) hstep (by omega))
                                  | (rw [if_neg hN] at hstep
                                     exact ih_75 (m9 + 1) _ _ _ τ (by omega) (by omega) hF hRd hRi hstep (by omega))
                                · first | exact absurd c_129 (by decide) | exact absurd (by decide) c_129
                              · skip
                                try simp (disch := omega) only [zb_notn, zb_not, zb_n0, zb_0, Bool.not_eq_false, Bool.not_eq_true, Bool.not_eq_true', Bool.not_eq_false', decide_eq_true_eq, decide_eq_false_iff_not, Classical.not_not] at c_95
                                refine z_aload_n X dX9_carries_98 rfl ?_
                                refine z_getr2 X fX9_74 (zso_21 hS) (zsr_21_30 hS) rfl dX9_carries_99 ?_
                                refine z_iload X dX9_carries_102 rfl ?_
                                refine z_ialdN X (zsa_43 hS) (by omega) (by omega) dX9_carries_104 ?_
                                rw [hkd]
                                refine z_iload_n X dX9_carries_105 rfl ?_
                                refine z_icmp_ne (tgt := 123) X dX9_carries_106 (by decide) (fun c_106 => ?_) (fun c_106 => ?_)
                                · skip
                                  try simp (disch := omega) only [zk0, nI_leI, nI_ltI, nI_eq, zbk_notn, zbk_not, zbk_n0, zbk_0, zb_0, zb_n0, zb_not, zb_notn, Bool.not_eq_false, Bool.not_eq_true, Bool.not_eq_true', Bool.not_eq_false', decide_eq_true_eq, decide_eq_false_iff_not, Classical.not_not] at c_106
                                  have hN : ¬ (0 < w9 ∧ q9.2.2.2.1 m9 = true ∧ kd m9 = k9 ∧ q9.1 m9 = 0 ∧ ro m9 (q9.2.1 m9) = c9) := fun z => by first | exact absurd z.2.1 (by rw [c_95]; decide) | (have z2 := z.2.2.1; omega) | (have z2 := z.2.2.2.2; omega)
                                  refine z_iconst (v := nI 0) X (by decide) dX9_carries_123 ?_
                                  refine z_istore X dX9_carries_124 (by decide) ?_
                                  refine z_iload_n X dX9_carries_126 rfl ?_
                                  refine z_iload X dX9_carries_127 rfl ?_
                                  refine z_if_eq (tgt := 142) X dX9_carries_129 (by decide) (fun c_129 => ?_) (fun c_129 => ?_)
                                  · skip
                                    refine z_iconst (v := nI 0) X (by decide) dX9_carries_142 ?_
                                    refine z_isubN X (by omega) dX9_carries_143 ?_
                                    refine z_istore_n X dX9_carries_144 (by decide) ?_
                                    refine z_inc1 X dX9_carries_145 rfl (by decide) ?_
                                    refine z_goto (tgt := 75) X dX9_carries_148 (by decide) ?_
                                    have hstep : zrmf fm tt kd pd ro hc fb ad ot c9 k9 (zrkf fm tt kd pd ro hc fb ad ot nm c9 ((zrcf fm tt kd pd ro hc fb ad ot sp br nm (zri nm q) c9), if br c9 then 0 else sp c9) (2 - k9)) (m9 + 1) = zrm1 fm tt kd pd ro hc fb ad ot c9 k9 m9 (q9, w9) := by show zrm1 fm tt kd pd ro hc fb ad ot c9 k9 m9 (zrmf fm tt kd pd ro hc fb ad ot c9 k9 (zrkf fm tt kd pd ro hc fb ad ot nm c9 ((zrcf fm tt kd pd ro hc fb ad ot sp br nm (zri nm q) c9), if br c9 then 0 else sp c9) (2 - k9)) m9) = _; rw [hfo]
                                    unfold zrm1 at hstep
                                    first
                                    | (rw [if_pos hY] at hstep
                                       exact ih_75 (m9 + 1) _ _ _ s9 (by omega) (by omega) (zRF_t hF hF9) hRd9 (zrcy_i hRi hRt (by omega) hY.2.2.2.1) hstep (by omega))
                                    | (rw [if_neg hN] at hstep
                                       exact ih_75 (m9 + 1) _ _ _ τ (by omega) (by omega) hF hRd hRi hstep (by omega))
                                  · first | exact absurd c_129 (by decide) | exact absurd (by decide) c_129
                                · skip
                                  try simp (disch := omega) only [zk0, nI_leI, nI_ltI, nI_eq, zbk_notn, zbk_not, zbk_n0, zbk_0, zb_0, zb_n0, zb_not, zb_notn, Bool.not_eq_false, Bool.not_eq_true, Bool.not_eq_true', Bool.not_eq_false', decide_eq_true_eq, decide_eq_false_iff_not, Classical.not_not] at c_106
                                  have hs0 := hi1 c_95
                                  have hi3 := hi2 hs0
                                  have hz44 : τ 44 m9 = 0 := by rw [h44, hs0]; rfl
                                  have hzm : zmc τ m9 = nI (ro m9 (q9.2.1 m9)) := by unfold zmc; rw [if_pos hz44, h54, zn_nI (by omega)]; exact (hro _ hi3.1).1
                                  have hrc := (hro _ hi3.1).2.1
                                  refine z_aload_n X dX9_carries_109 rfl ?_
                                  refine z_iload X dX9_carries_110 rfl ?_
                                  refine z_runV X kX9_190 (tX9_cableOf m9 hS (by omega) (fun _ => ⟨_, by omega, h54⟩)) (zso_21 hS) rfl rfl (Nat.le_of_ble_eq_true rfl) ⟨by decide, by decide⟩ ⟨by decide, by decide⟩ dX9_carries_112 ?_
                                  rintro _ g1 s1 ⟨rfl, h8, h9⟩
                                  replace h8 := h8.symm
                                  subst h8
                                  replace h9 := h9.symm
                                  subst h9
                                  rw [hzm]
                                  refine z_iload_n X dX9_carries_115 rfl ?_
                                  refine z_icmp_ne (tgt := 123) X dX9_carries_116 (by decide) (fun c_116 => ?_) (fun c_116 => ?_)
                                  · skip
                                    try simp (disch := omega) only [zk0, nI_leI, nI_ltI, nI_eq, zbk_notn, zbk_not, zbk_n0, zbk_0, zb_0, zb_n0, zb_not, zb_notn, Bool.not_eq_false, Bool.not_eq_true, Bool.not_eq_true', Bool.not_eq_false', decide_eq_true_eq, decide_eq_false_iff_not, Classical.not_not] at c_116
                                    have hN : ¬ (0 < w9 ∧ q9.2.2.2.1 m9 = true ∧ kd m9 = k9 ∧ q9.1 m9 = 0 ∧ ro m9 (q9.2.1 m9) = c9) := fun z => by first | exact absurd z.2.1 (by rw [c_95]; decide) | (have z2 := z.2.2.1; omega) | (have z2 := z.2.2.2.2; omega)
                                    refine z_iconst (v := nI 0) X (by decide) dX9_carries_123 ?_
                                    refine z_istore X dX9_carries_124 (by decide) ?_
                                    refine z_iload_n X dX9_carries_126 rfl ?_
                                    refine z_iload X dX9_carries_127 rfl ?_
                                    refine z_if_eq (tgt := 142) X dX9_carries_129 (by decide) (fun c_129 => ?_) (fun c_129 => ?_)
                                    · skip
                                      refine z_iconst (v := nI 0) X (by decide) dX9_carries_142 ?_
                                      refine z_isubN X (by omega) dX9_carries_143 ?_
                                      refine z_istore_n X dX9_carries_144 (by decide) ?_
                                      refine z_inc1 X dX9_carries_145 rfl (by decide) ?_
                                      refine z_goto (tgt := 75) X dX9_carries_148 (by decide) ?_
                                      have hstep : zrmf fm tt kd pd ro hc fb ad ot c9 k9 (zrkf fm tt kd pd ro hc fb ad ot nm c9 ((zrcf fm tt kd pd ro hc fb ad ot sp br nm (zri nm q) c9), if br c9 then 0 else sp c9) (2 - k9)) (m9 + 1) = zrm1 fm tt kd pd ro hc fb ad ot c9 k9 m9 (q9, w9) := by show zrm1 fm tt kd pd ro hc fb ad ot c9 k9 m9 (zrmf fm tt kd pd ro hc fb ad ot c9 k9 (zrkf fm tt kd pd ro hc fb ad ot nm c9 ((zrcf fm tt kd pd ro hc fb ad ot sp br nm (zri nm q) c9), if br c9 then 0 else sp c9) (2 - k9)) m9) = _; rw [hfo]
                                      unfold zrm1 at hstep
                                      first
                                      | (rw [if_pos hY] at hstep
                                         exact ih_75 (m9 + 1) _ _ _ s9 (by omega) (by omega) (zRF_t hF hF9) hRd9 (zrcy_i hRi hRt (by omega) hY.2.2.2.1) hstep (by omega))
                                      | (rw [if_neg hN] at hstep
                                         exact ih_75 (m9 + 1) _ _ _ τ (by omega) (by omega) hF hRd hRi hstep (by omega))
                                    · first | exact absurd c_129 (by decide) | exact absurd (by decide) c_129
                                  · skip
                                    try simp (disch := omega) only [zk0, nI_leI, nI_ltI, nI_eq, zbk_notn, zbk_not, zbk_n0, zbk_0, zb_0, zb_n0, zb_not, zb_notn, Bool.not_eq_false, Bool.not_eq_true, Bool.not_eq_true', Bool.not_eq_false', decide_eq_true_eq, decide_eq_false_iff_not, Classical.not_not] at c_116
                                    have hY : 0 < w9 ∧ q9.2.2.2.1 m9 = true ∧ kd m9 = k9 ∧ q9.1 m9 = 0 ∧ ro m9 (q9.2.1 m9) = c9 := ⟨by omega, c_95, by omega, hs0, by omega⟩
                                    refine z_iconst (v := nI 1) X (by decide) dX9_carries_119 ?_
                                    refine z_goto (tgt := 124) X dX9_carries_120 (by decide) ?_
                                    refine z_istore X dX9_carries_124 (by decide) ?_
                                    refine z_iload_n X dX9_carries_126 rfl ?_
                                    refine z_iload X dX9_carries_127 rfl ?_
                                    refine z_if_eq (tgt := 142) X dX9_carries_129 (by decide) (fun c_129 => ?_) (fun c_129 => ?_)
                                    · first | exact absurd c_129 (by decide) | exact absurd (by decide) c_129
                                    · skip
                                      refine z_aload_n X dX9_carries_132 rfl ?_
                                      refine z_iload X dX9_carries_133 rfl ?_
                                      refine z_iload_n X dX9_carries_135 rfl ?_
                                      refine z_runV X kX9_266 (tX9_carry (q := q9) m9 w9 hS hn12 hn8 hn60 hCRτ hRsτ hRd (by omega) hi3.1 (by omega) (by omega)) (zso_21 hS) rfl rfl (Nat.le_of_ble_eq_true rfl) ⟨by decide, by decide⟩ ⟨by decide, by decide⟩ dX9_carries_136 ?_
                                      rintro _ g1 s9 ⟨rfl, h8, hF9, hRd9⟩
                                      replace h8 := h8.symm
                                      subst h8
                                      refine z_goto (tgt := 143) X dX9_carries_139 (by decide) ?_
                                      refine z_isubN X (by omega) dX9_carries_143 ?_
                                      refine z_istore_n X dX9_carries_144 (by decide) ?_
                                      refine z_inc1 X dX9_carries_145 rfl (by decide) ?_
                                      refine z_goto (tgt := 75) X dX9_carries_148 (by decide) ?_
                                      have hstep : zrmf fm tt kd pd ro hc fb ad ot c9 k9 (zrkf fm tt kd pd ro hc fb ad ot nm c9 ((zrcf fm tt kd pd ro hc fb ad ot sp br nm (zri nm q) c9), if br c9 then 0 else sp c9) (2 - k9)) (m9 + 1) = zrm1 fm tt kd pd ro hc fb ad ot c9 k9 m9 (q9, w9) := by show zrm1 fm tt kd pd ro hc fb ad ot c9 k9 m9 (zrmf fm tt kd pd ro hc fb ad ot c9 k9 (zrkf fm tt kd pd ro hc fb ad ot nm c9 ((zrcf fm tt kd pd ro hc fb ad ot sp br nm (zri nm q) c9), if br c9 then 0 else sp c9) (2 - k9)) m9) = _; rw [hfo]
                                      unfold zrm1 at hstep
                                      first
                                      | (rw [if_pos hY] at hstep
                                         exact ih_75 (m9 + 1) _ _ _ s9 (by omega) (by omega) (zRF_t hF hF9) hRd9 (zrcy_i hRi hRt (by omega) hY.2.2.2.1) hstep (by omega))
                                      | (rw [if_neg hN] at hstep
                                         exact ih_75 (m9 + 1) _ _ _ τ (by omega) (by omega) hF hRd hRi hstep (by omega))
                      refine z_iconst (v := nI 0) X (by decide) dX9_carries_72 ?_
                      refine z_istore X dX9_carries_73 (by decide) ?_
                      exact loop_75 (nm - 0 + 1) 0 w9 _ q9 τ (Nat.zero_le _) hw hF hRd hRi hfo (by omega)
                refine z_iconst (v := nI 2) X (by decide) dX9_carries_66 ?_
                refine z_istore_n X dX9_carries_67 (by decide) ?_
                have e68 := fun v4 v5 => loop_68 (3 + 1) 3 (if br c9 then 0 else sp c9) v4 v5 (zrcf fm tt kd pd ro hc fb ad ot sp br nm (zri nm q) c9) τ (by omega) (by split <;> omega) hF hRd hRi rfl (by omega)
                rw [zpm_s (q := 2)] at e68
                first
                | (rw [c_52, if_pos rfl] at e68; exact e68 _ _)
                | (rw [c_52, if_neg (by decide)] at e68; exact e68 _ _)
        refine z_iconst (v := nI 0) X (by decide) dX9_carries_36 ?_
        refine z_istore_n X dX9_carries_37 (by decide) ?_
        exact loop_38 (nc - 0 + 1) 0 _ _ _ _ τ (Nat.zero_le _) hF hRd0 hRi0 (by omega)
      · skip
        try simp (disch := omega) only [zk0, nI_leI, nI_ltI, nI_eq, zbk_notn, zbk_not, zbk_n0, zbk_0, zb_0, zb_n0, zb_not, zb_notn, Bool.not_eq_false, Bool.not_eq_true, Bool.not_eq_true', Bool.not_eq_false', decide_eq_true_eq, decide_eq_false_iff_not, Classical.not_not] at c_7
        refine z_aload_n X dX9_carries_10 rfl ?_
        refine z_getr2 X fX9_113 (zso_21 hS) (zsr_21_43 hS) rfl dX9_carries_11 ?_
        refine z_iload_n X dX9_carries_14 rfl ?_
        refine z_aload_n X dX9_carries_15 rfl ?_
        refine z_getr2 X fX9_77 (zso_21 hS) (zsr_21_31 hS) rfl dX9_carries_16 ?_
        refine z_iload_n X dX9_carries_19 rfl ?_
        refine z_ialdN X (zsa_44 hS) (by omega) (by omega) dX9_carries_20 ?_
        have hst2 := hst2 m9 (by omega)
        rw [(hRd m9 (by omega)).1]
        rw [show (zri m9 q).1 m9 = q.1 m9 from rfl]
        refine z_if_ne (tgt := 28) X dX9_carries_21 (by decide) (fun c_21 => ?_) (fun c_21 => ?_)
        · skip
          try simp (disch := omega) only [zk0, nI_leI, nI_ltI, nI_eq, zbk_notn, zbk_not, zbk_n0, zbk_0, zb_0, zb_n0, zb_not, zb_notn, Bool.not_eq_false, Bool.not_eq_true, Bool.not_eq_true', Bool.not_eq_false', decide_eq_true_eq, decide_eq_false_iff_not, Classical.not_not] at c_21
          refine z_iconst (v := nI 0) X (by decide) dX9_carries_28 ?_
          refine z_zastN X (zsa_56 hS) (by omega) (by omega) (by first | exact Or.inl rfl | exact Or.inr rfl | exact zb_01 _ | assumption) dX9_carries_29 ?_
          refine z_inc1 X dX9_carries_30 rfl (by decide) ?_
          refine z_goto (tgt := 2) X dX9_carries_33 (by decide) ?_
          refine ih_2 (m9 + 1) _ _ _ _ _ (by omega) ⟨fun i q1 q2 q3 q4 q5 => by rw [z_up_ne q5]; exact hF.1 i q1 q2 q3 q4 q5, fun j hj => by rw [z_up_app, if_pos rfl, if_neg (by omega)]; exact hF.2 j hj⟩ (fun m hm => ?_) (by omega)
          obtain ⟨k1, k2, k3, k4, k5⟩ := hRd m hm
          refine ⟨by rw [z_up_ne (by decide)]; exact k1, by rw [z_up_ne (by decide)]; exact k2, by rw [z_up_ne (by decide)]; exact k3, ?_, by rw [z_up_ne (by decide)]; exact k5⟩
          rw [z_up_app, if_pos rfl]
          show _ = zb (if m < m9 + 1 then decide (q.1 m = 0) else q.2.2.2.1 m)
          by_cases e : m = m9
          · subst e
            rw [if_pos rfl, if_pos (by omega)]
            first
            | rw [decide_eq_true (by omega)]; rfl
            | rw [decide_eq_false (by omega)]; rfl
          · rw [if_neg e]
            have k4' : τ 56 m = zb (if m < m9 then decide (q.1 m = 0) else q.2.2.2.1 m) := k4
            rw [k4']
            by_cases e2 : m < m9
            · rw [if_pos e2, if_pos (by omega)]
            · rw [if_neg e2, if_neg (by omega)]
        · skip
          try simp (disch := omega) only [zk0, nI_leI, nI_ltI, nI_eq, zbk_notn, zbk_not, zbk_n0, zbk_0, zb_0, zb_n0, zb_not, zb_notn, Bool.not_eq_false, Bool.not_eq_true, Bool.not_eq_true', Bool.not_eq_false', decide_eq_true_eq, decide_eq_false_iff_not, Classical.not_not] at c_21
          refine z_iconst (v := nI 1) X (by decide) dX9_carries_24 ?_
          refine z_goto (tgt := 29) X dX9_carries_25 (by decide) ?_
          refine z_zastN X (zsa_56 hS) (by omega) (by omega) (by first | exact Or.inl rfl | exact Or.inr rfl | exact zb_01 _ | assumption) dX9_carries_29 ?_
          refine z_inc1 X dX9_carries_30 rfl (by decide) ?_
          refine z_goto (tgt := 2) X dX9_carries_33 (by decide) ?_
          refine ih_2 (m9 + 1) _ _ _ _ _ (by omega) ⟨fun i q1 q2 q3 q4 q5 => by rw [z_up_ne q5]; exact hF.1 i q1 q2 q3 q4 q5, fun j hj => by rw [z_up_app, if_pos rfl, if_neg (by omega)]; exact hF.2 j hj⟩ (fun m hm => ?_) (by omega)
          obtain ⟨k1, k2, k3, k4, k5⟩ := hRd m hm
          refine ⟨by rw [z_up_ne (by decide)]; exact k1, by rw [z_up_ne (by decide)]; exact k2, by rw [z_up_ne (by decide)]; exact k3, ?_, by rw [z_up_ne (by decide)]; exact k5⟩
          rw [z_up_app, if_pos rfl]
          show _ = zb (if m < m9 + 1 then decide (q.1 m = 0) else q.2.2.2.1 m)
          by_cases e : m = m9
          · subst e
            rw [if_pos rfl, if_pos (by omega)]
            first
            | rw [decide_eq_true (by omega)]; rfl
            | rw [decide_eq_false (by omega)]; rfl
          · rw [if_neg e]
            have k4' : τ 56 m = zb (if m < m9 then decide (q.1 m = 0) else q.2.2.2.1 m) := k4
            rw [k4']
            by_cases e2 : m < m9
            · rw [if_pos e2, if_pos (by omega)]
            · rw [if_neg e2, if_neg (by omega)]
  refine z_iconst (v := nI 0) X (by decide) dX9_carries_0 ?_
  refine z_istore_n X dX9_carries_1 (by decide) ?_
  exact loop_2 (nm - 0 + 1) 0 _ _ _ _ σ (Nat.zero_le _) ⟨fun _ _ _ _ _ _ => rfl, fun _ _ => rfl⟩ (fun m hm => by have := hRd m hm; exact this) (by omega)
