/-! contracts of the reference: the cut -/
theorem zln_us {T : Nat → Nat → Nat} {us : Nat → Nat → Bool} {p l : Nat} (h : 0 < zln T us p l) : 0 < l ∧ us p (zln T us p l) = true := by
  unfold zln at h ⊢
  by_cases e : 0 < l
  · rw [if_pos e] at h ⊢; exact ⟨e, zlc_us 4 h⟩
  · rw [if_neg e] at h; exact absurd h (Nat.lt_irrefl _)
theorem zln_le {T : Nat → Nat → Nat} {us : Nat → Nat → Bool} {p l : Nat} : zln T us p l ≤ 4 := by
  unfold zln; split
  · exact zlc_le 4
  · omega
/-- a piece of the reference's cut -/
def zcw1 (σ : zIn) (ne K vw nd : Nat) (dd : Nat → Nat) (x : Int32) (q : Nat × Nat) : Prop := (q.2 = 0 ∧ x = (-1) - nI (dd q.1) - 1) ∨ (q.2 ≠ 0 ∧ zen σ ne K vw nd q.1 q.2 x ∧ x ≠ -1)
def zpre (σ τ : zIn) (ne K vw nd : Nat) (dd : Nat → Nat) (L rest : List (Nat × Nat)) (j : Nat) : Prop := ∃ pre, L = pre ++ rest ∧ pre.length = j ∧ ∀ i, i < j → zcw1 σ ne K vw nd dd (τ 40 i) (pre.getD i (0, 0))
theorem zpre_s {σ τ τ' : zIn} {ne K vw nd j : Nat} {dd : Nat → Nat} {L rest : List (Nat × Nat)} {q : Nat × Nat} {x : Int32} (h : zpre σ τ ne K vw nd dd L (q :: rest) j) (hx : zcw1 σ ne K vw nd dd x q) (h1 : τ' 40 j = x) (h2 : ∀ i, i < j → τ' 40 i = τ 40 i) : zpre σ τ' ne K vw nd dd L rest (j + 1) := by
  obtain ⟨pre, e1, e2, e3⟩ := h
  refine ⟨pre ++ [q], by rw [e1]; simp, by simp [e2], fun i hi => ?_⟩
  by_cases e : i = j
  · subst e
    rw [h1, show (pre ++ [q]).getD i (0, 0) = q by simp [List.getD, ← e2]]
    exact hx
  · rw [h2 i (by omega), show (pre ++ [q]).getD i (0, 0) = pre.getD i (0, 0) by simp [List.getD, List.getElem?_append_left (show i < pre.length by omega)]]
    exact e3 i (by omega)
set_option maxHeartbeats 4000000 in
set_option maxRecDepth 100000 in
theorem tX9_cuts {l : Launch} {D : va_G} {cy : Nat → ClassId} {z0 : Nat} {g : zSh} {σ : zIn} {o K ni nd ne nu mi j0 pl cd vw : Nat} {lt dd dy : Nat → Nat} (T : Nat → Nat → Nat) (many : Nat) (hS : zS g) (hP : zPk σ o K ni nd ne nu mi j0 pl cd vw lt dd dy) (hmn : many ≤ 24) (hT : 0 < many → (∀ p n, p ≤ nd → n ≤ 24 → σ 39 (25 * p + n) = nI (T p n)) ∧ ∀ p n, T p n ≤ 1000000) : z_Ct l D cy z0 MX9_cuts [.ref (g.2.1 21), .int (nI o), .int (nI many)] g σ (fun v g' σ' => v = none ∧ g' = g ∧ (∀ i, i ≠ 21 → i ≠ 40 → σ' i = σ i) ∧ (∀ k, k ≠ 25 → σ' 21 k = σ 21 k) ∧ σ' 21 25 = nI (zcut nd T (zusσ σ ne K vw nd) 0 many).length ∧ ∀ i, i < (zcut nd T (zusσ σ ne K vw nd) 0 many).length → zcw1 σ ne K vw nd dd (σ' 40 i) ((zcut nd T (zusσ σ ne K vw nd) 0 many).getD i (0, 0))) := by
  have hP9 := hP
  obtain ⟨⟨he, he2, hC, hNC⟩, ⟨ho, hK, hK2⟩, ⟨hnd, hn24, hdd⟩, ⟨hni, hlt⟩, ⟨hnu, hn12, hmi, hmi2, hdy⟩, hj0, hpl, hpl1, hpl2, hcd, hcd1, hcd2, hvw, hvw2⟩ := hP9
  have hj12 := zrr_le hj0
  refine z_ofM (by decide) (z_cr (z_ci (z_ci z_c0))) (Nat.le_of_ble_eq_true rfl) ?_
  intro p e s m args below meth c X
  refine z_aload_n X dX9_cuts_0 rfl ?_
  refine z_getr2 X fX9_53 (zso_21 hS) (zsr_21_19 hS) rfl dX9_cuts_1 ?_
  refine z_aload_n X dX9_cuts_4 rfl ?_
  refine z_iload_n X dX9_cuts_5 rfl ?_
  refine z_runV X kX9_199 (tX9_rulesAt o hS hnu hn12 hmi hmi2 hdy ho) (zso_21 hS) rfl rfl (Nat.le_of_ble_eq_true rfl) ⟨by decide, by decide⟩ ⟨by decide, by decide⟩ dX9_cuts_6 ?_
  rintro _ g1 s1 ⟨j, rfl, h8, h9, hj⟩
  replace h8 := h8.symm
  subst h8
  replace h9 := h9.symm
  subst h9
  obtain rfl : j0 = j := zrr_u hj0 hj
  refine z_ialdN X (zsa_36 hS) (by omega) (by omega) dX9_cuts_9 ?_
  rw [hcd]
  refine z_istore_n X dX9_cuts_10 (by decide) ?_
  refine z_iconst (v := nI 0) X (by decide) dX9_cuts_11 ?_
  refine z_istore X dX9_cuts_12 (by decide) ?_
  refine z_iload_n X dX9_cuts_14 rfl ?_
  refine z_istore X dX9_cuts_15 (by decide) ?_
  have loop_22 : ∀ (n : Nat) (p9 f9 j9 : Nat) (v6 v7 v8 : Option Value) (τ : zIn) (hp : p9 ≤ nd) (hjp : j9 ≤ p9) (hfm : f9 ≤ many) (hF : ∀ i, i ≠ 21 → i ≠ 40 → τ i = σ i) (hF21 : ∀ k, k ≠ 25 → τ 21 k = σ 21 k) (hcj : τ 21 25 = nI j9) (hpre : zpre σ τ ne K vw nd dd (zcut nd T (zusσ σ ne K vw nd) 0 many) (zcut nd T (zusσ σ ne K vw nd) p9 f9) j9) (hn : nd - p9 < n), z_V p l e (zRm MX9_cuts) s m args below meth c 9 D cy z0 0 0 (zQm MX9_cuts below D cy z0 (fun v g' σ' => v = none ∧ g' = g ∧ (∀ i, i ≠ 21 → i ≠ 40 → σ' i = σ i) ∧ (∀ k, k ≠ 25 → σ' 21 k = σ 21 k) ∧ σ' 21 25 = nI (zcut nd T (zusσ σ ne K vw nd) 0 many).length ∧ ∀ i, i < (zcut nd T (zusσ σ ne K vw nd) 0 many).length → zcw1 σ ne K vw nd dd (σ' 40 i) ((zcut nd T (zusσ σ ne K vw nd) 0 many).getD i (0, 0))) args s) 22 [some (.ref (g.2.1 21)), some (.int (nI o)), some (.int (nI many)), some (.int (nI cd)), some (.int (nI p9)), some (.int (nI f9)), v6, v7, v8] [] g τ := by
    intro n
    induction n with
    | zero => intro p9 f9 j9 v6 v7 v8 τ hp hjp hfm hF hF21 hcj hpre hn; exact absurd hn (Nat.not_lt_zero _)
    | succ n ih_22 =>
      intro p9 f9 j9 v6 v7 v8 τ hp hjp hfm hF hF21 hcj hpre hn
      have hF2 : ∀ i, i ≠ 21 → i ≠ 39 → i ≠ 40 → τ i = σ i := fun i h _ h2 => hF i h h2
      have hPτ : zPk τ o K ni nd ne nu mi j0 pl cd vw lt dd dy := zPk_e hP hF2 (fun k h _ _ => hF21 k h)
      have hndτ : τ 21 22 = nI nd := (hF21 22 (by decide)).trans hnd
      refine z_iload X dX9_cuts_22 rfl ?_
      refine z_aload_n X dX9_cuts_24 rfl ?_
      refine z_geti X fX9_202 (zso_21 hS) rfl dX9_cuts_25 ?_
      rw [hndτ]
      refine z_icmp_ge (tgt := 206) X dX9_cuts_28 (by decide) (fun c_28 => ?_) (fun c_28 => ?_)
      · skip
        try simp (disch := omega) only [zk0, nI_leI, nI_ltI, nI_eq, zbk_notn, zbk_not, zbk_n0, zbk_0, zb_0, zb_n0, zb_not, zb_notn, Bool.not_eq_false, Bool.not_eq_true, Bool.not_eq_true', Bool.not_eq_false', decide_eq_true_eq, decide_eq_false_iff_not, Classical.not_not] at c_28
        refine z_vret X (by decide) (by decide) rfl dX9_cuts_206 ?_
        have e : p9 = nd := by omega
        subst e
        obtain ⟨pre, e1, e2, e3⟩ := hpre
        rw [zcut_e (Nat.le_refl _), List.append_nil] at e1
        rw [e1]
        exact ⟨rfl, rfl, hF, hF21, by rw [e2]; exact hcj, by rw [e2]; exact e3⟩
      · skip
        try simp (disch := omega) only [zk0, nI_leI, nI_ltI, nI_eq, zbk_notn, zbk_not, zbk_n0, zbk_0, zb_0, zb_n0, zb_not, zb_notn, Bool.not_eq_false, Bool.not_eq_true, Bool.not_eq_true', Bool.not_eq_false', decide_eq_true_eq, decide_eq_false_iff_not, Classical.not_not] at c_28
        refine z_iconst (v := nI 0) X (by decide) dX9_cuts_31 ?_
        refine z_istore X dX9_cuts_32 (by decide) ?_
        have loop_37 : ∀ (n : Nat) (m9 n9 : Nat) (v8 : Option Value) (hm : m9 ≤ 4) (hl : (n9 = 0 ∧ (0 < f9 → zln T (zusσ σ ne K vw nd) p9 f9 = zlc T (zusσ σ ne K vw nd) p9 f9 m9)) ∨ (0 < n9 ∧ n9 = zln T (zusσ σ ne K vw nd) p9 f9)) (hn : m9 < n), z_V p l e (zRm MX9_cuts) s m args below meth c 9 D cy z0 0 0 (zQm MX9_cuts below D cy z0 (fun v g' σ' => v = none ∧ g' = g ∧ (∀ i, i ≠ 21 → i ≠ 40 → σ' i = σ i) ∧ (∀ k, k ≠ 25 → σ' 21 k = σ 21 k) ∧ σ' 21 25 = nI (zcut nd T (zusσ σ ne K vw nd) 0 many).length ∧ ∀ i, i < (zcut nd T (zusσ σ ne K vw nd) 0 many).length → zcw1 σ ne K vw nd dd (σ' 40 i) ((zcut nd T (zusσ σ ne K vw nd) 0 many).getD i (0, 0))) args s) 37 [some (.ref (g.2.1 21)), some (.int (nI o)), some (.int (nI many)), some (.int (nI cd)), some (.int (nI p9)), some (.int (nI f9)), some (.int (nI n9)), some (.int (nI m9)), v8] [] g τ := by
          intro n
          induction n with
          | zero => intro m9 n9 v8 hm hl hn; exact absurd hn (Nat.not_lt_zero _)
          | succ n ih_37 =>
            intro m9 n9 v8 hm hl hn
            have hn4 : n9 ≤ 4 := by rcases hl with ⟨q, -⟩ | ⟨-, q⟩; omega; rw [q]; exact zln_le
            refine z_iload X dX9_cuts_37 rfl ?_
            refine z_if_le (tgt := 125) X dX9_cuts_39 (by decide) (fun c_39 => ?_) (fun c_39 => ?_)
            · skip
              try simp (disch := omega) only [zk0, nI_leI, nI_ltI, nI_eq, zbk_notn, zbk_not, zbk_n0, zbk_0, zb_0, zb_n0, zb_not, zb_notn, Bool.not_eq_false, Bool.not_eq_true, Bool.not_eq_true', Bool.not_eq_false', decide_eq_true_eq, decide_eq_false_iff_not, Classical.not_not] at c_39
              have hln : n9 = zln T (zusσ σ ne K vw nd) p9 f9 := by
                rcases hl with ⟨q1, q2⟩ | ⟨-, q⟩
                · rcases Nat.eq_zero_or_pos f9 with h0 | h0
                  · unfold zln; rw [if_neg (by omega)]; exact q1
                  · rw [q2 h0, show m9 = 0 by omega]; exact q1
                · exact q
              have hnf : 0 < n9 → 0 < f9 := fun h => (zln_us (T := T) (us := (zusσ σ ne K vw nd)) (p := p9) (l := f9) (by omega)).1
              refine z_aload_n X dX9_cuts_125 rfl ?_
              refine z_getr2 X fX9_65 (zso_21 hS) (zsr_21_24 hS) rfl dX9_cuts_126 ?_
              refine z_aload_n X dX9_cuts_129 rfl ?_
              refine z_geti X fX9_222 (zso_21 hS) rfl dX9_cuts_130 ?_
              rw [hcj]
              refine z_iload X dX9_cuts_133 rfl ?_
              refine z_if_le (tgt := 150) X dX9_cuts_135 (by decide) (fun c_135 => ?_) (fun c_135 => ?_)
              · skip
                try simp (disch := omega) only [zk0, nI_leI, nI_ltI, nI_eq, zbk_notn, zbk_not, zbk_n0, zbk_0, zb_0, zb_n0, zb_not, zb_notn, Bool.not_eq_false, Bool.not_eq_true, Bool.not_eq_true', Bool.not_eq_false', decide_eq_true_eq, decide_eq_false_iff_not, Classical.not_not] at c_135
                refine z_iconst (v := -1) X (by decide) dX9_cuts_150 ?_
                refine z_aload_n X dX9_cuts_151 rfl ?_
                refine z_getr2 X fX9_59 (zso_21 hS) (zsr_21_21 hS) rfl dX9_cuts_152 ?_
                refine z_iload X dX9_cuts_155 rfl ?_
                refine z_ialdN X (zsa_38 hS) (by omega) (by omega) dX9_cuts_157 ?_
                rw [hF 38 (by decide) (by decide), (hdd p9 (by omega)).1]
                refine z_isub X dX9_cuts_158 ?_
                refine z_iconst (v := 1) X (by decide) dX9_cuts_159 ?_
                refine z_isub X dX9_cuts_160 ?_
                refine z_iastN X (zsa_40 hS) (by omega) (by omega) dX9_cuts_161 ?_
                skip
                refine z_iload X dX9_cuts_162 rfl ?_
                refine z_iload X dX9_cuts_164 rfl ?_
                refine z_if_le (tgt := 173) X dX9_cuts_166 (by decide) (fun c_166 => ?_) (fun c_166 => ?_)
                · skip
                  try simp (disch := omega) only [zk0, nI_leI, nI_ltI, nI_eq, zbk_notn, zbk_not, zbk_n0, zbk_0, zb_0, zb_n0, zb_not, zb_notn, Bool.not_eq_false, Bool.not_eq_true, Bool.not_eq_true', Bool.not_eq_false', decide_eq_true_eq, decide_eq_false_iff_not, Classical.not_not] at c_166
                  refine z_iconst (v := nI 0) X (by decide) dX9_cuts_173 ?_
                  refine z_isubN X (by omega) dX9_cuts_174 ?_
                  refine z_istore X dX9_cuts_175 (by decide) ?_
                  refine z_iload X dX9_cuts_177 rfl ?_
                  refine z_iload X dX9_cuts_179 rfl ?_
                  refine z_if_le (tgt := 189) X dX9_cuts_181 (by decide) (fun c_181 => ?_) (fun c_181 => ?_)
                  · skip
                    try simp (disch := omega) only [zk0, nI_leI, nI_ltI, nI_eq, zbk_notn, zbk_not, zbk_n0, zbk_0, zb_0, zb_n0, zb_not, zb_notn, Bool.not_eq_false, Bool.not_eq_true, Bool.not_eq_true', Bool.not_eq_false', decide_eq_true_eq, decide_eq_false_iff_not, Classical.not_not] at c_181
                    refine z_iconst (v := nI 1) X (by decide) dX9_cuts_189 ?_
                    refine z_iaddN X dX9_cuts_190 ?_
                    refine z_istore X dX9_cuts_191 (by decide) ?_
                    refine z_aload_n X dX9_cuts_193 rfl ?_
                    refine z_dup X rfl dX9_cuts_194 ?_
                    refine z_geti X fX9_222 (zso_21 hS) rfl dX9_cuts_195 ?_
                    rw [z_up_ne (by decide), hcj]
                    refine z_iconst (v := nI 1) X (by decide) dX9_cuts_198 ?_
                    refine z_iaddN X dX9_cuts_199 ?_
                    refine z_puti X fX9_222 (zso_21 hS) rfl dX9_cuts_200 ?_
                    refine z_goto (tgt := 22) X dX9_cuts_203 (by decide) ?_
                    first
                    | (exfalso; omega)
                    | (have hcut := zcut_c (nd := nd) (T := T) (us := (zusσ σ ne K vw nd)) (p := p9) (left := f9) (by omega) (by omega)
                       rw [← hln] at hcut
                       rw [hcut] at hpre
                       exact ih_22 (p9 + n9) (f9 - 1) (j9 + 1) _ _ _ _ (by omega) (by omega) (by omega) (fun i h1 h2 => by rw [z_up_ne h1, z_up_ne h2]; exact hF i h1 h2) (fun k hk => by rw [z_up_app, if_pos rfl, if_neg hk, z_up_ne (by decide)]; exact hF21 k hk) (by rw [z_up_app, if_pos rfl, if_pos rfl]) (zpre_s hpre (x := r9) (Or.inr ⟨by show n9 ≠ 0; omega, hr3, hr4⟩) (by rw [z_up_ne (by decide), z_up_app, if_pos rfl, if_pos rfl]) (fun i hi => by rw [z_up_ne (by decide), z_up_app, if_pos rfl, if_neg (by omega)])) (by omega))
                    | (have hcut := zcut_p (nd := nd) (T := T) (us := (zusσ σ ne K vw nd)) (p := p9) (left := f9) (by omega) (by omega)
                       rw [hcut] at hpre
                       exact ih_22 (p9 + 1) (f9 - 0) (j9 + 1) _ _ _ _ (by omega) (by omega) (by omega) (fun i h1 h2 => by rw [z_up_ne h1, z_up_ne h2]; exact hF i h1 h2) (fun k hk => by rw [z_up_app, if_pos rfl, if_neg hk, z_up_ne (by decide)]; exact hF21 k hk) (by rw [z_up_app, if_pos rfl, if_pos rfl]) (zpre_s hpre (x := (-1) - nI (dd p9) - 1) (Or.inl ⟨rfl, rfl⟩) (by rw [z_up_ne (by decide), z_up_app, if_pos rfl, if_pos rfl]) (fun i hi => by rw [z_up_ne (by decide), z_up_app, if_pos rfl, if_neg (by omega)])) (by omega))
                  · skip
                    try simp (disch := omega) only [zk0, nI_leI, nI_ltI, nI_eq, zbk_notn, zbk_not, zbk_n0, zbk_0, zb_0, zb_n0, zb_not, zb_notn, Bool.not_eq_false, Bool.not_eq_true, Bool.not_eq_true', Bool.not_eq_false', decide_eq_true_eq, decide_eq_false_iff_not, Classical.not_not] at c_181
                    refine z_iload X dX9_cuts_184 rfl ?_
                    refine z_goto (tgt := 190) X dX9_cuts_186 (by decide) ?_
                    refine z_iaddN X dX9_cuts_190 ?_
                    refine z_istore X dX9_cuts_191 (by decide) ?_
                    refine z_aload_n X dX9_cuts_193 rfl ?_
                    refine z_dup X rfl dX9_cuts_194 ?_
                    refine z_geti X fX9_222 (zso_21 hS) rfl dX9_cuts_195 ?_
                    rw [z_up_ne (by decide), hcj]
                    refine z_iconst (v := nI 1) X (by decide) dX9_cuts_198 ?_
                    refine z_iaddN X dX9_cuts_199 ?_
                    refine z_puti X fX9_222 (zso_21 hS) rfl dX9_cuts_200 ?_
                    refine z_goto (tgt := 22) X dX9_cuts_203 (by decide) ?_
                    first
                    | (exfalso; omega)
                    | (have hcut := zcut_c (nd := nd) (T := T) (us := (zusσ σ ne K vw nd)) (p := p9) (left := f9) (by omega) (by omega)
                       rw [← hln] at hcut
                       rw [hcut] at hpre
                       exact ih_22 (p9 + n9) (f9 - 1) (j9 + 1) _ _ _ _ (by omega) (by omega) (by omega) (fun i h1 h2 => by rw [z_up_ne h1, z_up_ne h2]; exact hF i h1 h2) (fun k hk => by rw [z_up_app, if_pos rfl, if_neg hk, z_up_ne (by decide)]; exact hF21 k hk) (by rw [z_up_app, if_pos rfl, if_pos rfl]) (zpre_s hpre (x := r9) (Or.inr ⟨by show n9 ≠ 0; omega, hr3, hr4⟩) (by rw [z_up_ne (by decide), z_up_app, if_pos rfl, if_pos rfl]) (fun i hi => by rw [z_up_ne (by decide), z_up_app, if_pos rfl, if_neg (by omega)])) (by omega))
                    | (have hcut := zcut_p (nd := nd) (T := T) (us := (zusσ σ ne K vw nd)) (p := p9) (left := f9) (by omega) (by omega)
                       rw [hcut] at hpre
                       exact ih_22 (p9 + 1) (f9 - 0) (j9 + 1) _ _ _ _ (by omega) (by omega) (by omega) (fun i h1 h2 => by rw [z_up_ne h1, z_up_ne h2]; exact hF i h1 h2) (fun k hk => by rw [z_up_app, if_pos rfl, if_neg hk, z_up_ne (by decide)]; exact hF21 k hk) (by rw [z_up_app, if_pos rfl, if_pos rfl]) (zpre_s hpre (x := (-1) - nI (dd p9) - 1) (Or.inl ⟨rfl, rfl⟩) (by rw [z_up_ne (by decide), z_up_app, if_pos rfl, if_pos rfl]) (fun i hi => by rw [z_up_ne (by decide), z_up_app, if_pos rfl, if_neg (by omega)])) (by omega))
                · skip
                  try simp (disch := omega) only [zk0, nI_leI, nI_ltI, nI_eq, zbk_notn, zbk_not, zbk_n0, zbk_0, zb_0, zb_n0, zb_not, zb_notn, Bool.not_eq_false, Bool.not_eq_true, Bool.not_eq_true', Bool.not_eq_false', decide_eq_true_eq, decide_eq_false_iff_not, Classical.not_not] at c_166
                  refine z_iconst (v := nI 1) X (by decide) dX9_cuts_169 ?_
                  refine z_goto (tgt := 174) X dX9_cuts_170 (by decide) ?_
                  refine z_isubN X (by omega) dX9_cuts_174 ?_
                  refine z_istore X dX9_cuts_175 (by decide) ?_
                  refine z_iload X dX9_cuts_177 rfl ?_
                  refine z_iload X dX9_cuts_179 rfl ?_
                  refine z_if_le (tgt := 189) X dX9_cuts_181 (by decide) (fun c_181 => ?_) (fun c_181 => ?_)
                  · skip
                    try simp (disch := omega) only [zk0, nI_leI, nI_ltI, nI_eq, zbk_notn, zbk_not, zbk_n0, zbk_0, zb_0, zb_n0, zb_not, zb_notn, Bool.not_eq_false, Bool.not_eq_true, Bool.not_eq_true', Bool.not_eq_false', decide_eq_true_eq, decide_eq_false_iff_not, Classical.not_not] at c_181
                    refine z_iconst (v := nI 1) X (by decide) dX9_cuts_189 ?_
                    refine z_iaddN X dX9_cuts_190 ?_
                    refine z_istore X dX9_cuts_191 (by decide) ?_
                    refine z_aload_n X dX9_cuts_193 rfl ?_
                    refine z_dup X rfl dX9_cuts_194 ?_
                    refine z_geti X fX9_222 (zso_21 hS) rfl dX9_cuts_195 ?_
                    rw [z_up_ne (by decide), hcj]
                    refine z_iconst (v := nI 1) X (by decide) dX9_cuts_198 ?_
                    refine z_iaddN X dX9_cuts_199 ?_
                    refine z_puti X fX9_222 (zso_21 hS) rfl dX9_cuts_200 ?_
                    refine z_goto (tgt := 22) X dX9_cuts_203 (by decide) ?_
                    first
                    | (exfalso; omega)
                    | (have hcut := zcut_c (nd := nd) (T := T) (us := (zusσ σ ne K vw nd)) (p := p9) (left := f9) (by omega) (by omega)
                       rw [← hln] at hcut
                       rw [hcut] at hpre
                       exact ih_22 (p9 + n9) (f9 - 1) (j9 + 1) _ _ _ _ (by omega) (by omega) (by omega) (fun i h1 h2 => by rw [z_up_ne h1, z_up_ne h2]; exact hF i h1 h2) (fun k hk => by rw [z_up_app, if_pos rfl, if_neg hk, z_up_ne (by decide)]; exact hF21 k hk) (by rw [z_up_app, if_pos rfl, if_pos rfl]) (zpre_s hpre (x := r9) (Or.inr ⟨by show n9 ≠ 0; omega, hr3, hr4⟩) (by rw [z_up_ne (by decide), z_up_app, if_pos rfl, if_pos rfl]) (fun i hi => by rw [z_up_ne (by decide), z_up_app, if_pos rfl, if_neg (by omega)])) (by omega))
                    | (have hcut := zcut_p (nd := nd) (T := T) (us := (zusσ σ ne K vw nd)) (p := p9) (left := f9) (by omega) (by omega)
                       rw [hcut] at hpre
                       exact ih_22 (p9 + 1) (f9 - 0) (j9 + 1) _ _ _ _ (by omega) (by omega) (by omega) (fun i h1 h2 => by rw [z_up_ne h1, z_up_ne h2]; exact hF i h1 h2) (fun k hk => by rw [z_up_app, if_pos rfl, if_neg hk, z_up_ne (by decide)]; exact hF21 k hk) (by rw [z_up_app, if_pos rfl, if_pos rfl]) (zpre_s hpre (x := (-1) - nI (dd p9) - 1) (Or.inl ⟨rfl, rfl⟩) (by rw [z_up_ne (by decide), z_up_app, if_pos rfl, if_pos rfl]) (fun i hi => by rw [z_up_ne (by decide), z_up_app, if_pos rfl, if_neg (by omega)])) (by omega))
                  · skip
                    try simp (disch := omega) only [zk0, nI_leI, nI_ltI, nI_eq, zbk_notn, zbk_not, zbk_n0, zbk_0, zb_0, zb_n0, zb_not, zb_notn, Bool.not_eq_false, Bool.not_eq_true, Bool.not_eq_true', Bool.not_eq_false', decide_eq_true_eq, decide_eq_false_iff_not, Classical.not_not] at c_181
                    refine z_iload X dX9_cuts_184 rfl ?_
                    refine z_goto (tgt := 190) X dX9_cuts_186 (by decide) ?_
                    refine z_iaddN X dX9_cuts_190 ?_
                    refine z_istore X dX9_cuts_191 (by decide) ?_
                    refine z_aload_n X dX9_cuts_193 rfl ?_
                    refine z_dup X rfl dX9_cuts_194 ?_
                    refine z_geti X fX9_222 (zso_21 hS) rfl dX9_cuts_195 ?_
                    rw [z_up_ne (by decide), hcj]
                    refine z_iconst (v := nI 1) X (by decide) dX9_cuts_198 ?_
                    refine z_iaddN X dX9_cuts_199 ?_
                    refine z_puti X fX9_222 (zso_21 hS) rfl dX9_cuts_200 ?_
                    refine z_goto (tgt := 22) X dX9_cuts_203 (by decide) ?_
                    first
                    | (exfalso; omega)
                    | (have hcut := zcut_c (nd := nd) (T := T) (us := (zusσ σ ne K vw nd)) (p := p9) (left := f9) (by omega) (by omega)
                       rw [← hln] at hcut
                       rw [hcut] at hpre
                       exact ih_22 (p9 + n9) (f9 - 1) (j9 + 1) _ _ _ _ (by omega) (by omega) (by omega) (fun i h1 h2 => by rw [z_up_ne h1, z_up_ne h2]; exact hF i h1 h2) (fun k hk => by rw [z_up_app, if_pos rfl, if_neg hk, z_up_ne (by decide)]; exact hF21 k hk) (by rw [z_up_app, if_pos rfl, if_pos rfl]) (zpre_s hpre (x := r9) (Or.inr ⟨by show n9 ≠ 0; omega, hr3, hr4⟩) (by rw [z_up_ne (by decide), z_up_app, if_pos rfl, if_pos rfl]) (fun i hi => by rw [z_up_ne (by decide), z_up_app, if_pos rfl, if_neg (by omega)])) (by omega))
                    | (have hcut := zcut_p (nd := nd) (T := T) (us := (zusσ σ ne K vw nd)) (p := p9) (left := f9) (by omega) (by omega)
                       rw [hcut] at hpre
                       exact ih_22 (p9 + 1) (f9 - 0) (j9 + 1) _ _ _ _ (by omega) (by omega) (by omega) (fun i h1 h2 => by rw [z_up_ne h1, z_up_ne h2]; exact hF i h1 h2) (fun k hk => by rw [z_up_app, if_pos rfl, if_neg hk, z_up_ne (by decide)]; exact hF21 k hk) (by rw [z_up_app, if_pos rfl, if_pos rfl]) (zpre_s hpre (x := (-1) - nI (dd p9) - 1) (Or.inl ⟨rfl, rfl⟩) (by rw [z_up_ne (by decide), z_up_app, if_pos rfl, if_pos rfl]) (fun i hi => by rw [z_up_ne (by decide), z_up_app, if_pos rfl, if_neg (by omega)])) (by omega))
              · skip
                try simp (disch := omega) only [zk0, nI_leI, nI_ltI, nI_eq, zbk_notn, zbk_not, zbk_n0, zbk_0, zb_0, zb_n0, zb_not, zb_notn, Bool.not_eq_false, Bool.not_eq_true, Bool.not_eq_true', Bool.not_eq_false', decide_eq_true_eq, decide_eq_false_iff_not, Classical.not_not] at c_135
                have hus5 : (zusσ σ ne K vw nd) p9 n9 = true := by rw [hln]; exact (zln_us (by omega)).2
                have hpn : p9 + n9 ≤ nd := (zus_t.mp hus5).1
                refine z_aload_n X dX9_cuts_138 rfl ?_
                refine z_iload X dX9_cuts_139 rfl ?_
                refine z_iload X dX9_cuts_141 rfl ?_
                refine z_iload_n X dX9_cuts_143 rfl ?_
                refine z_runV X kX9_218 (tX9_entryAt (o := o) p9 n9 hS hPτ (by omega) (by omega) (by omega)) (zso_21 hS) rfl rfl (Nat.le_of_ble_eq_true rfl) ⟨by decide, by decide⟩ ⟨by decide, by decide⟩ dX9_cuts_144 ?_
                rintro _ g1 s1 ⟨r9, rfl, h8, h9, hr⟩
                replace h8 := h8.symm
                subst h8
                replace h9 := h9.symm
                subst h9
                have hr3 := zen_e hF2 hr
                have hr4 : r9 ≠ -1 := by rcases zen_1 he2 hr3 with ⟨-, q⟩ | ⟨q, -⟩; rw [hus5] at q; exact absurd q (by decide); exact q
                refine z_goto (tgt := 161) X dX9_cuts_147 (by decide) ?_
                refine z_iastN X (zsa_40 hS) (by omega) (by omega) dX9_cuts_161 ?_
                skip
                refine z_iload X dX9_cuts_162 rfl ?_
                refine z_iload X dX9_cuts_164 rfl ?_
                refine z_if_le (tgt := 173) X dX9_cuts_166 (by decide) (fun c_166 => ?_) (fun c_166 => ?_)
                · skip
                  try simp (disch := omega) only [zk0, nI_leI, nI_ltI, nI_eq, zbk_notn, zbk_not, zbk_n0, zbk_0, zb_0, zb_n0, zb_not, zb_notn, Bool.not_eq_false, Bool.not_eq_true, Bool.not_eq_true', Bool.not_eq_false', decide_eq_true_eq, decide_eq_false_iff_not, Classical.not_not] at c_166
                  refine z_iconst (v := nI 0) X (by decide) dX9_cuts_173 ?_
                  refine z_isubN X (by omega) dX9_cuts_174 ?_
                  refine z_istore X dX9_cuts_175 (by decide) ?_
                  refine z_iload X dX9_cuts_177 rfl ?_
                  refine z_iload X dX9_cuts_179 rfl ?_
                  refine z_if_le (tgt := 189) X dX9_cuts_181 (by decide) (fun c_181 => ?_) (fun c_181 => ?_)
                  · skip
                    try simp (disch := omega) only [zk0, nI_leI, nI_ltI, nI_eq, zbk_notn, zbk_not, zbk_n0, zbk_0, zb_0, zb_n0, zb_not, zb_notn, Bool.not_eq_false, Bool.not_eq_true, Bool.not_eq_true', Bool.not_eq_false', decide_eq_true_eq, decide_eq_false_iff_not, Classical.not_not] at c_181
                    refine z_iconst (v := nI 1) X (by decide) dX9_cuts_189 ?_
                    refine z_iaddN X dX9_cuts_190 ?_
                    refine z_istore X dX9_cuts_191 (by decide) ?_
                    refine z_aload_n X dX9_cuts_193 rfl ?_
                    refine z_dup X rfl dX9_cuts_194 ?_
                    refine z_geti X fX9_222 (zso_21 hS) rfl dX9_cuts_195 ?_
                    rw [z_up_ne (by decide), hcj]
                    refine z_iconst (v := nI 1) X (by decide) dX9_cuts_198 ?_
                    refine z_iaddN X dX9_cuts_199 ?_
                    refine z_puti X fX9_222 (zso_21 hS) rfl dX9_cuts_200 ?_
                    refine z_goto (tgt := 22) X dX9_cuts_203 (by decide) ?_
                    first
                    | (exfalso; omega)
                    | (have hcut := zcut_c (nd := nd) (T := T) (us := (zusσ σ ne K vw nd)) (p := p9) (left := f9) (by omega) (by omega)
                       rw [← hln] at hcut
                       rw [hcut] at hpre
                       exact ih_22 (p9 + n9) (f9 - 1) (j9 + 1) _ _ _ _ (by omega) (by omega) (by omega) (fun i h1 h2 => by rw [z_up_ne h1, z_up_ne h2]; exact hF i h1 h2) (fun k hk => by rw [z_up_app, if_pos rfl, if_neg hk, z_up_ne (by decide)]; exact hF21 k hk) (by rw [z_up_app, if_pos rfl, if_pos rfl]) (zpre_s hpre (x := r9) (Or.inr ⟨by show n9 ≠ 0; omega, hr3, hr4⟩) (by rw [z_up_ne (by decide), z_up_app, if_pos rfl, if_pos rfl]) (fun i hi => by rw [z_up_ne (by decide), z_up_app, if_pos rfl, if_neg (by omega)])) (by omega))
                    | (have hcut := zcut_p (nd := nd) (T := T) (us := (zusσ σ ne K vw nd)) (p := p9) (left := f9) (by omega) (by omega)
                       rw [hcut] at hpre
                       exact ih_22 (p9 + 1) (f9 - 0) (j9 + 1) _ _ _ _ (by omega) (by omega) (by omega) (fun i h1 h2 => by rw [z_up_ne h1, z_up_ne h2]; exact hF i h1 h2) (fun k hk => by rw [z_up_app, if_pos rfl, if_neg hk, z_up_ne (by decide)]; exact hF21 k hk) (by rw [z_up_app, if_pos rfl, if_pos rfl]) (zpre_s hpre (x := (-1) - nI (dd p9) - 1) (Or.inl ⟨rfl, rfl⟩) (by rw [z_up_ne (by decide), z_up_app, if_pos rfl, if_pos rfl]) (fun i hi => by rw [z_up_ne (by decide), z_up_app, if_pos rfl, if_neg (by omega)])) (by omega))
                  · skip
                    try simp (disch := omega) only [zk0, nI_leI, nI_ltI, nI_eq, zbk_notn, zbk_not, zbk_n0, zbk_0, zb_0, zb_n0, zb_not, zb_notn, Bool.not_eq_false, Bool.not_eq_true, Bool.not_eq_true', Bool.not_eq_false', decide_eq_true_eq, decide_eq_false_iff_not, Classical.not_not] at c_181
                    refine z_iload X dX9_cuts_184 rfl ?_
                    refine z_goto (tgt := 190) X dX9_cuts_186 (by decide) ?_
                    refine z_iaddN X dX9_cuts_190 ?_
                    refine z_istore X dX9_cuts_191 (by decide) ?_
                    refine z_aload_n X dX9_cuts_193 rfl ?_
                    refine z_dup X rfl dX9_cuts_194 ?_
                    refine z_geti X fX9_222 (zso_21 hS) rfl dX9_cuts_195 ?_
                    rw [z_up_ne (by decide), hcj]
                    refine z_iconst (v := nI 1) X (by decide) dX9_cuts_198 ?_
                    refine z_iaddN X dX9_cuts_199 ?_
                    refine z_puti X fX9_222 (zso_21 hS) rfl dX9_cuts_200 ?_
                    refine z_goto (tgt := 22) X dX9_cuts_203 (by decide) ?_
                    first
                    | (exfalso; omega)
                    | (have hcut := zcut_c (nd := nd) (T := T) (us := (zusσ σ ne K vw nd)) (p := p9) (left := f9) (by omega) (by omega)
                       rw [← hln] at hcut
                       rw [hcut] at hpre
                       exact ih_22 (p9 + n9) (f9 - 1) (j9 + 1) _ _ _ _ (by omega) (by omega) (by omega) (fun i h1 h2 => by rw [z_up_ne h1, z_up_ne h2]; exact hF i h1 h2) (fun k hk => by rw [z_up_app, if_pos rfl, if_neg hk, z_up_ne (by decide)]; exact hF21 k hk) (by rw [z_up_app, if_pos rfl, if_pos rfl]) (zpre_s hpre (x := r9) (Or.inr ⟨by show n9 ≠ 0; omega, hr3, hr4⟩) (by rw [z_up_ne (by decide), z_up_app, if_pos rfl, if_pos rfl]) (fun i hi => by rw [z_up_ne (by decide), z_up_app, if_pos rfl, if_neg (by omega)])) (by omega))
                    | (have hcut := zcut_p (nd := nd) (T := T) (us := (zusσ σ ne K vw nd)) (p := p9) (left := f9) (by omega) (by omega)
                       rw [hcut] at hpre
                       exact ih_22 (p9 + 1) (f9 - 0) (j9 + 1) _ _ _ _ (by omega) (by omega) (by omega) (fun i h1 h2 => by rw [z_up_ne h1, z_up_ne h2]; exact hF i h1 h2) (fun k hk => by rw [z_up_app, if_pos rfl, if_neg hk, z_up_ne (by decide)]; exact hF21 k hk) (by rw [z_up_app, if_pos rfl, if_pos rfl]) (zpre_s hpre (x := (-1) - nI (dd p9) - 1) (Or.inl ⟨rfl, rfl⟩) (by rw [z_up_ne (by decide), z_up_app, if_pos rfl, if_pos rfl]) (fun i hi => by rw [z_up_ne (by decide), z_up_app, if_pos rfl, if_neg (by omega)])) (by omega))
                · skip
                  try simp (disch := omega) only [zk0, nI_leI, nI_ltI, nI_eq, zbk_notn, zbk_not, zbk_n0, zbk_0, zb_0, zb_n0, zb_not, zb_notn, Bool.not_eq_false, Bool.not_eq_true, Bool.not_eq_true', Bool.not_eq_false', decide_eq_true_eq, decide_eq_false_iff_not, Classical.not_not] at c_166
                  refine z_iconst (v := nI 1) X (by decide) dX9_cuts_169 ?_
                  refine z_goto (tgt := 174) X dX9_cuts_170 (by decide) ?_
                  refine z_isubN X (by omega) dX9_cuts_174 ?_
                  refine z_istore X dX9_cuts_175 (by decide) ?_
                  refine z_iload X dX9_cuts_177 rfl ?_
                  refine z_iload X dX9_cuts_179 rfl ?_
                  refine z_if_le (tgt := 189) X dX9_cuts_181 (by decide) (fun c_181 => ?_) (fun c_181 => ?_)
                  · skip
                    try simp (disch := omega) only [zk0, nI_leI, nI_ltI, nI_eq, zbk_notn, zbk_not, zbk_n0, zbk_0, zb_0, zb_n0, zb_not, zb_notn, Bool.not_eq_false, Bool.not_eq_true, Bool.not_eq_true', Bool.not_eq_false', decide_eq_true_eq, decide_eq_false_iff_not, Classical.not_not] at c_181
                    refine z_iconst (v := nI 1) X (by decide) dX9_cuts_189 ?_
                    refine z_iaddN X dX9_cuts_190 ?_
                    refine z_istore X dX9_cuts_191 (by decide) ?_
                    refine z_aload_n X dX9_cuts_193 rfl ?_
                    refine z_dup X rfl dX9_cuts_194 ?_
                    refine z_geti X fX9_222 (zso_21 hS) rfl dX9_cuts_195 ?_
                    rw [z_up_ne (by decide), hcj]
                    refine z_iconst (v := nI 1) X (by decide) dX9_cuts_198 ?_
                    refine z_iaddN X dX9_cuts_199 ?_
                    refine z_puti X fX9_222 (zso_21 hS) rfl dX9_cuts_200 ?_
                    refine z_goto (tgt := 22) X dX9_cuts_203 (by decide) ?_
                    first
                    | (exfalso; omega)
                    | (have hcut := zcut_c (nd := nd) (T := T) (us := (zusσ σ ne K vw nd)) (p := p9) (left := f9) (by omega) (by omega)
                       rw [← hln] at hcut
                       rw [hcut] at hpre
                       exact ih_22 (p9 + n9) (f9 - 1) (j9 + 1) _ _ _ _ (by omega) (by omega) (by omega) (fun i h1 h2 => by rw [z_up_ne h1, z_up_ne h2]; exact hF i h1 h2) (fun k hk => by rw [z_up_app, if_pos rfl, if_neg hk, z_up_ne (by decide)]; exact hF21 k hk) (by rw [z_up_app, if_pos rfl, if_pos rfl]) (zpre_s hpre (x := r9) (Or.inr ⟨by show n9 ≠ 0; omega, hr3, hr4⟩) (by rw [z_up_ne (by decide), z_up_app, if_pos rfl, if_pos rfl]) (fun i hi => by rw [z_up_ne (by decide), z_up_app, if_pos rfl, if_neg (by omega)])) (by omega))
                    | (have hcut := zcut_p (nd := nd) (T := T) (us := (zusσ σ ne K vw nd)) (p := p9) (left := f9) (by omega) (by omega)
                       rw [hcut] at hpre
                       exact ih_22 (p9 + 1) (f9 - 0) (j9 + 1) _ _ _ _ (by omega) (by omega) (by omega) (fun i h1 h2 => by rw [z_up_ne h1, z_up_ne h2]; exact hF i h1 h2) (fun k hk => by rw [z_up_app, if_pos rfl, if_neg hk, z_up_ne (by decide)]; exact hF21 k hk) (by rw [z_up_app, if_pos rfl, if_pos rfl]) (zpre_s hpre (x := (-1) - nI (dd p9) - 1) (Or.inl ⟨rfl, rfl⟩) (by rw [z_up_ne (by decide), z_up_app, if_pos rfl, if_pos rfl]) (fun i hi => by rw [z_up_ne (by decide), z_up_app, if_pos rfl, if_neg (by omega)])) (by omega))
                  · skip
                    try simp (disch := omega) only [zk0, nI_leI, nI_ltI, nI_eq, zbk_notn, zbk_not, zbk_n0, zbk_0, zb_0, zb_n0, zb_not, zb_notn, Bool.not_eq_false, Bool.not_eq_true, Bool.not_eq_true', Bool.not_eq_false', decide_eq_true_eq, decide_eq_false_iff_not, Classical.not_not] at c_181
                    refine z_iload X dX9_cuts_184 rfl ?_
                    refine z_goto (tgt := 190) X dX9_cuts_186 (by decide) ?_
                    refine z_iaddN X dX9_cuts_190 ?_
                    refine z_istore X dX9_cuts_191 (by decide) ?_
                    refine z_aload_n X dX9_cuts_193 rfl ?_
                    refine z_dup X rfl dX9_cuts_194 ?_
                    refine z_geti X fX9_222 (zso_21 hS) rfl dX9_cuts_195 ?_
                    rw [z_up_ne (by decide), hcj]
                    refine z_iconst (v := nI 1) X (by decide) dX9_cuts_198 ?_
                    refine z_iaddN X dX9_cuts_199 ?_
                    refine z_puti X fX9_222 (zso_21 hS) rfl dX9_cuts_200 ?_
                    refine z_goto (tgt := 22) X dX9_cuts_203 (by decide) ?_
                    first
                    | (exfalso; omega)
                    | (have hcut := zcut_c (nd := nd) (T := T) (us := (zusσ σ ne K vw nd)) (p := p9) (left := f9) (by omega) (by omega)
                       rw [← hln] at hcut
                       rw [hcut] at hpre
                       exact ih_22 (p9 + n9) (f9 - 1) (j9 + 1) _ _ _ _ (by omega) (by omega) (by omega) (fun i h1 h2 => by rw [z_up_ne h1, z_up_ne h2]; exact hF i h1 h2) (fun k hk => by rw [z_up_app, if_pos rfl, if_neg hk, z_up_ne (by decide)]; exact hF21 k hk) (by rw [z_up_app, if_pos rfl, if_pos rfl]) (zpre_s hpre (x := r9) (Or.inr ⟨by show n9 ≠ 0; omega, hr3, hr4⟩) (by rw [z_up_ne (by decide), z_up_app, if_pos rfl, if_pos rfl]) (fun i hi => by rw [z_up_ne (by decide), z_up_app, if_pos rfl, if_neg (by omega)])) (by omega))
                    | (have hcut := zcut_p (nd := nd) (T := T) (us := (zusσ σ ne K vw nd)) (p := p9) (left := f9) (by omega) (by omega)
                       rw [hcut] at hpre
                       exact ih_22 (p9 + 1) (f9 - 0) (j9 + 1) _ _ _ _ (by omega) (by omega) (by omega) (fun i h1 h2 => by rw [z_up_ne h1, z_up_ne h2]; exact hF i h1 h2) (fun k hk => by rw [z_up_app, if_pos rfl, if_neg hk, z_up_ne (by decide)]; exact hF21 k hk) (by rw [z_up_app, if_pos rfl, if_pos rfl]) (zpre_s hpre (x := (-1) - nI (dd p9) - 1) (Or.inl ⟨rfl, rfl⟩) (by rw [z_up_ne (by decide), z_up_app, if_pos rfl, if_pos rfl]) (fun i hi => by rw [z_up_ne (by decide), z_up_app, if_pos rfl, if_neg (by omega)])) (by omega))
            · skip
              try simp (disch := omega) only [zk0, nI_leI, nI_ltI, nI_eq, zbk_notn, zbk_not, zbk_n0, zbk_0, zb_0, zb_n0, zb_not, zb_notn, Bool.not_eq_false, Bool.not_eq_true, Bool.not_eq_true', Bool.not_eq_false', decide_eq_true_eq, decide_eq_false_iff_not, Classical.not_not] at c_39
              refine z_iload X dX9_cuts_42 rfl ?_
              refine z_if_ne (tgt := 125) X dX9_cuts_44 (by decide) (fun c_44 => ?_) (fun c_44 => ?_)
              · skip
                try simp (disch := omega) only [zk0, nI_leI, nI_ltI, nI_eq, zbk_notn, zbk_not, zbk_n0, zbk_0, zb_0, zb_n0, zb_not, zb_notn, Bool.not_eq_false, Bool.not_eq_true, Bool.not_eq_true', Bool.not_eq_false', decide_eq_true_eq, decide_eq_false_iff_not, Classical.not_not] at c_44
                have hln : n9 = zln T (zusσ σ ne K vw nd) p9 f9 := by
                  rcases hl with ⟨q1, q2⟩ | ⟨-, q⟩
                  · rcases Nat.eq_zero_or_pos f9 with h0 | h0
                    · unfold zln; rw [if_neg (by omega)]; exact q1
                    · rw [q2 h0, show m9 = 0 by omega]; exact q1
                  · exact q
                have hnf : 0 < n9 → 0 < f9 := fun h => (zln_us (T := T) (us := (zusσ σ ne K vw nd)) (p := p9) (l := f9) (by omega)).1
                refine z_aload_n X dX9_cuts_125 rfl ?_
                refine z_getr2 X fX9_65 (zso_21 hS) (zsr_21_24 hS) rfl dX9_cuts_126 ?_
                refine z_aload_n X dX9_cuts_129 rfl ?_
                refine z_geti X fX9_222 (zso_21 hS) rfl dX9_cuts_130 ?_
                rw [hcj]
                refine z_iload X dX9_cuts_133 rfl ?_
                refine z_if_le (tgt := 150) X dX9_cuts_135 (by decide) (fun c_135 => ?_) (fun c_135 => ?_)
                · skip
                  try simp (disch := omega) only [zk0, nI_leI, nI_ltI, nI_eq, zbk_notn, zbk_not, zbk_n0, zbk_0, zb_0, zb_n0, zb_not, zb_notn, Bool.not_eq_false, Bool.not_eq_true, Bool.not_eq_true', Bool.not_eq_false', decide_eq_true_eq, decide_eq_false_iff_not, Classical.not_not] at c_135
                  refine z_iconst (v := -1) X (by decide) dX9_cuts_150 ?_
                  refine z_aload_n X dX9_cuts_151 rfl ?_
                  refine z_getr2 X fX9_59 (zso_21 hS) (zsr_21_21 hS) rfl dX9_cuts_152 ?_
                  refine z_iload X dX9_cuts_155 rfl ?_
                  refine z_ialdN X (zsa_38 hS) (by omega) (by omega) dX9_cuts_157 ?_
                  rw [hF 38 (by decide) (by decide), (hdd p9 (by omega)).1]
                  refine z_isub X dX9_cuts_158 ?_
                  refine z_iconst (v := 1) X (by decide) dX9_cuts_159 ?_
                  refine z_isub X dX9_cuts_160 ?_
                  refine z_iastN X (zsa_40 hS) (by omega) (by omega) dX9_cuts_161 ?_
                  skip
                  refine z_iload X dX9_cuts_162 rfl ?_
                  refine z_iload X dX9_cuts_164 rfl ?_
                  refine z_if_le (tgt := 173) X dX9_cuts_166 (by decide) (fun c_166 => ?_) (fun c_166 => ?_)
                  · skip
                    try simp (disch := omega) only [zk0, nI_leI, nI_ltI, nI_eq, zbk_notn, zbk_not, zbk_n0, zbk_0, zb_0, zb_n0, zb_not, zb_notn, Bool.not_eq_false, Bool.not_eq_true, Bool.not_eq_true', Bool.not_eq_false', decide_eq_true_eq, decide_eq_false_iff_not, Classical.not_not] at c_166
                    refine z_iconst (v := nI 0) X (by decide) dX9_cuts_173 ?_
                    refine z_isubN X (by omega) dX9_cuts_174 ?_
                    refine z_istore X dX9_cuts_175 (by decide) ?_
                    refine z_iload X dX9_cuts_177 rfl ?_
                    refine z_iload X dX9_cuts_179 rfl ?_
                    refine z_if_le (tgt := 189) X dX9_cuts_181 (by decide) (fun c_181 => ?_) (fun c_181 => ?_)
                    · skip
                      try simp (disch := omega) only [zk0, nI_leI, nI_ltI, nI_eq, zbk_notn, zbk_not, zbk_n0, zbk_0, zb_0, zb_n0, zb_not, zb_notn, Bool.not_eq_false, Bool.not_eq_true, Bool.not_eq_true', Bool.not_eq_false', decide_eq_true_eq, decide_eq_false_iff_not, Classical.not_not] at c_181
                      refine z_iconst (v := nI 1) X (by decide) dX9_cuts_189 ?_
                      refine z_iaddN X dX9_cuts_190 ?_
                      refine z_istore X dX9_cuts_191 (by decide) ?_
                      refine z_aload_n X dX9_cuts_193 rfl ?_
                      refine z_dup X rfl dX9_cuts_194 ?_
                      refine z_geti X fX9_222 (zso_21 hS) rfl dX9_cuts_195 ?_
                      rw [z_up_ne (by decide), hcj]
                      refine z_iconst (v := nI 1) X (by decide) dX9_cuts_198 ?_
                      refine z_iaddN X dX9_cuts_199 ?_
                      refine z_puti X fX9_222 (zso_21 hS) rfl dX9_cuts_200 ?_
                      refine z_goto (tgt := 22) X dX9_cuts_203 (by decide) ?_
                      first
                      | (exfalso; omega)
                      | (have hcut := zcut_c (nd := nd) (T := T) (us := (zusσ σ ne K vw nd)) (p := p9) (left := f9) (by omega) (by omega)
                         rw [← hln] at hcut
                         rw [hcut] at hpre
                         exact ih_22 (p9 + n9) (f9 - 1) (j9 + 1) _ _ _ _ (by omega) (by omega) (by omega) (fun i h1 h2 => by rw [z_up_ne h1, z_up_ne h2]; exact hF i h1 h2) (fun k hk => by rw [z_up_app, if_pos rfl, if_neg hk, z_up_ne (by decide)]; exact hF21 k hk) (by rw [z_up_app, if_pos rfl, if_pos rfl]) (zpre_s hpre (x := r9) (Or.inr ⟨by show n9 ≠ 0; omega, hr3, hr4⟩) (by rw [z_up_ne (by decide), z_up_app, if_pos rfl, if_pos rfl]) (fun i hi => by rw [z_up_ne (by decide), z_up_app, if_pos rfl, if_neg (by omega)])) (by omega))
                      | (have hcut := zcut_p (nd := nd) (T := T) (us := (zusσ σ ne K vw nd)) (p := p9) (left := f9) (by omega) (by omega)
                         rw [hcut] at hpre
                         exact ih_22 (p9 + 1) (f9 - 0) (j9 + 1) _ _ _ _ (by omega) (by omega) (by omega) (fun i h1 h2 => by rw [z_up_ne h1, z_up_ne h2]; exact hF i h1 h2) (fun k hk => by rw [z_up_app, if_pos rfl, if_neg hk, z_up_ne (by decide)]; exact hF21 k hk) (by rw [z_up_app, if_pos rfl, if_pos rfl]) (zpre_s hpre (x := (-1) - nI (dd p9) - 1) (Or.inl ⟨rfl, rfl⟩) (by rw [z_up_ne (by decide), z_up_app, if_pos rfl, if_pos rfl]) (fun i hi => by rw [z_up_ne (by decide), z_up_app, if_pos rfl, if_neg (by omega)])) (by omega))
                    · skip
                      try simp (disch := omega) only [zk0, nI_leI, nI_ltI, nI_eq, zbk_notn, zbk_not, zbk_n0, zbk_0, zb_0, zb_n0, zb_not, zb_notn, Bool.not_eq_false, Bool.not_eq_true, Bool.not_eq_true', Bool.not_eq_false', decide_eq_true_eq, decide_eq_false_iff_not, Classical.not_not] at c_181
                      refine z_iload X dX9_cuts_184 rfl ?_
                      refine z_goto (tgt := 190) X dX9_cuts_186 (by decide) ?_
                      refine z_iaddN X dX9_cuts_190 ?_
                      refine z_istore X dX9_cuts_191 (by decide) ?_
                      refine z_aload_n X dX9_cuts_193 rfl ?_
                      refine z_dup X rfl dX9_cuts_194 ?_
                      refine z_geti X fX9_222 (zso_21 hS) rfl dX9_cuts_195 ?_
                      rw [z_up_ne (by decide), hcj]
                      refine z_iconst (v := nI 1) X (by decide) dX9_cuts_198 ?_
                      refine z_iaddN X dX9_cuts_199 ?_
                      refine z_puti X fX9_222 (zso_21 hS) rfl dX9_cuts_200 ?_
                      refine z_goto (tgt := 22) X dX9_cuts_203 (by decide) ?_
                      first
                      | (exfalso; omega)
                      | (have hcut := zcut_c (nd := nd) (T := T) (us := (zusσ σ ne K vw nd)) (p := p9) (left := f9) (by omega) (by omega)
                         rw [← hln] at hcut
                         rw [hcut] at hpre
                         exact ih_22 (p9 + n9) (f9 - 1) (j9 + 1) _ _ _ _ (by omega) (by omega) (by omega) (fun i h1 h2 => by rw [z_up_ne h1, z_up_ne h2]; exact hF i h1 h2) (fun k hk => by rw [z_up_app, if_pos rfl, if_neg hk, z_up_ne (by decide)]; exact hF21 k hk) (by rw [z_up_app, if_pos rfl, if_pos rfl]) (zpre_s hpre (x := r9) (Or.inr ⟨by show n9 ≠ 0; omega, hr3, hr4⟩) (by rw [z_up_ne (by decide), z_up_app, if_pos rfl, if_pos rfl]) (fun i hi => by rw [z_up_ne (by decide), z_up_app, if_pos rfl, if_neg (by omega)])) (by omega))
                      | (have hcut := zcut_p (nd := nd) (T := T) (us := (zusσ σ ne K vw nd)) (p := p9) (left := f9) (by omega) (by omega)
                         rw [hcut] at hpre
                         exact ih_22 (p9 + 1) (f9 - 0) (j9 + 1) _ _ _ _ (by omega) (by omega) (by omega) (fun i h1 h2 => by rw [z_up_ne h1, z_up_ne h2]; exact hF i h1 h2) (fun k hk => by rw [z_up_app, if_pos rfl, if_neg hk, z_up_ne (by decide)]; exact hF21 k hk) (by rw [z_up_app, if_pos rfl, if_pos rfl]) (zpre_s hpre (x := (-1) - nI (dd p9) - 1) (Or.inl ⟨rfl, rfl⟩) (by rw [z_up_ne (by decide), z_up_app, if_pos rfl, if_pos rfl]) (fun i hi => by rw [z_up_ne (by decide), z_up_app, if_pos rfl, if_neg (by omega)])) (by omega))
                  · skip
                    try simp (disch := omega) only [zk0, nI_leI, nI_ltI, nI_eq, zbk_notn, zbk_not, zbk_n0, zbk_0, zb_0, zb_n0, zb_not, zb_notn, Bool.not_eq_false, Bool.not_eq_true, Bool.not_eq_true', Bool.not_eq_false', decide_eq_true_eq, decide_eq_false_iff_not, Classical.not_not] at c_166
                    refine z_iconst (v := nI 1) X (by decide) dX9_cuts_169 ?_
                    refine z_goto (tgt := 174) X dX9_cuts_170 (by decide) ?_
                    refine z_isubN X (by omega) dX9_cuts_174 ?_
                    refine z_istore X dX9_cuts_175 (by decide) ?_
                    refine z_iload X dX9_cuts_177 rfl ?_
                    refine z_iload X dX9_cuts_179 rfl ?_
                    refine z_if_le (tgt := 189) X dX9_cuts_181 (by decide) (fun c_181 => ?_) (fun c_181 => ?_)
                    · skip
                      try simp (disch := omega) only [zk0, nI_leI, nI_ltI, nI_eq, zbk_notn, zbk_not, zbk_n0, zbk_0, zb_0, zb_n0, zb_not, zb_notn, Bool.not_eq_false, Bool.not_eq_true, Bool.not_eq_true', Bool.not_eq_false', decide_eq_true_eq, decide_eq_false_iff_not, Classical.not_not] at c_181
                      refine z_iconst (v := nI 1) X (by decide) dX9_cuts_189 ?_
                      refine z_iaddN X dX9_cuts_190 ?_
                      refine z_istore X dX9_cuts_191 (by decide) ?_
                      refine z_aload_n X dX9_cuts_193 rfl ?_
                      refine z_dup X rfl dX9_cuts_194 ?_
                      refine z_geti X fX9_222 (zso_21 hS) rfl dX9_cuts_195 ?_
                      rw [z_up_ne (by decide), hcj]
                      refine z_iconst (v := nI 1) X (by decide) dX9_cuts_198 ?_
                      refine z_iaddN X dX9_cuts_199 ?_
                      refine z_puti X fX9_222 (zso_21 hS) rfl dX9_cuts_200 ?_
                      refine z_goto (tgt := 22) X dX9_cuts_203 (by decide) ?_
                      first
                      | (exfalso; omega)
                      | (have hcut := zcut_c (nd := nd) (T := T) (us := (zusσ σ ne K vw nd)) (p := p9) (left := f9) (by omega) (by omega)
                         rw [← hln] at hcut
                         rw [hcut] at hpre
                         exact ih_22 (p9 + n9) (f9 - 1) (j9 + 1) _ _ _ _ (by omega) (by omega) (by omega) (fun i h1 h2 => by rw [z_up_ne h1, z_up_ne h2]; exact hF i h1 h2) (fun k hk => by rw [z_up_app, if_pos rfl, if_neg hk, z_up_ne (by decide)]; exact hF21 k hk) (by rw [z_up_app, if_pos rfl, if_pos rfl]) (zpre_s hpre (x := r9) (Or.inr ⟨by show n9 ≠ 0; omega, hr3, hr4⟩) (by rw [z_up_ne (by decide), z_up_app, if_pos rfl, if_pos rfl]) (fun i hi => by rw [z_up_ne (by decide), z_up_app, if_pos rfl, if_neg (by omega)])) (by omega))
                      | (have hcut := zcut_p (nd := nd) (T := T) (us := (zusσ σ ne K vw nd)) (p := p9) (left := f9) (by omega) (by omega)
                         rw [hcut] at hpre
                         exact ih_22 (p9 + 1) (f9 - 0) (j9 + 1) _ _ _ _ (by omega) (by omega) (by omega) (fun i h1 h2 => by rw [z_up_ne h1, z_up_ne h2]; exact hF i h1 h2) (fun k hk => by rw [z_up_app, if_pos rfl, if_neg hk, z_up_ne (by decide)]; exact hF21 k hk) (by rw [z_up_app, if_pos rfl, if_pos rfl]) (zpre_s hpre (x := (-1) - nI (dd p9) - 1) (Or.inl ⟨rfl, rfl⟩) (by rw [z_up_ne (by decide), z_up_app, if_pos rfl, if_pos rfl]) (fun i hi => by rw [z_up_ne (by decide), z_up_app, if_pos rfl, if_neg (by omega)])) (by omega))
                    · skip
                      try simp (disch := omega) only [zk0, nI_leI, nI_ltI, nI_eq, zbk_notn, zbk_not, zbk_n0, zbk_0, zb_0, zb_n0, zb_not, zb_notn, Bool.not_eq_false, Bool.not_eq_true, Bool.not_eq_true', Bool.not_eq_false', decide_eq_true_eq, decide_eq_false_iff_not, Classical.not_not] at c_181
                      refine z_iload X dX9_cuts_184 rfl ?_
                      refine z_goto (tgt := 190) X dX9_cuts_186 (by decide) ?_
                      refine z_iaddN X dX9_cuts_190 ?_
                      refine z_istore X dX9_cuts_191 (by decide) ?_
                      refine z_aload_n X dX9_cuts_193 rfl ?_
                      refine z_dup X rfl dX9_cuts_194 ?_
                      refine z_geti X fX9_222 (zso_21 hS) rfl dX9_cuts_195 ?_
                      rw [z_up_ne (by decide), hcj]
                      refine z_iconst (v := nI 1) X (by decide) dX9_cuts_198 ?_
                      refine z_iaddN X dX9_cuts_199 ?_
                      refine z_puti X fX9_222 (zso_21 hS) rfl dX9_cuts_200 ?_
                      refine z_goto (tgt := 22) X dX9_cuts_203 (by decide) ?_
                      first
                      | (exfalso; omega)
                      | (have hcut := zcut_c (nd := nd) (T := T) (us := (zusσ σ ne K vw nd)) (p := p9) (left := f9) (by omega) (by omega)
                         rw [← hln] at hcut
                         rw [hcut] at hpre
                         exact ih_22 (p9 + n9) (f9 - 1) (j9 + 1) _ _ _ _ (by omega) (by omega) (by omega) (fun i h1 h2 => by rw [z_up_ne h1, z_up_ne h2]; exact hF i h1 h2) (fun k hk => by rw [z_up_app, if_pos rfl, if_neg hk, z_up_ne (by decide)]; exact hF21 k hk) (by rw [z_up_app, if_pos rfl, if_pos rfl]) (zpre_s hpre (x := r9) (Or.inr ⟨by show n9 ≠ 0; omega, hr3, hr4⟩) (by rw [z_up_ne (by decide), z_up_app, if_pos rfl, if_pos rfl]) (fun i hi => by rw [z_up_ne (by decide), z_up_app, if_pos rfl, if_neg (by omega)])) (by omega))
                      | (have hcut := zcut_p (nd := nd) (T := T) (us := (zusσ σ ne K vw nd)) (p := p9) (left := f9) (by omega) (by omega)
                         rw [hcut] at hpre
                         exact ih_22 (p9 + 1) (f9 - 0) (j9 + 1) _ _ _ _ (by omega) (by omega) (by omega) (fun i h1 h2 => by rw [z_up_ne h1, z_up_ne h2]; exact hF i h1 h2) (fun k hk => by rw [z_up_app, if_pos rfl, if_neg hk, z_up_ne (by decide)]; exact hF21 k hk) (by rw [z_up_app, if_pos rfl, if_pos rfl]) (zpre_s hpre (x := (-1) - nI (dd p9) - 1) (Or.inl ⟨rfl, rfl⟩) (by rw [z_up_ne (by decide), z_up_app, if_pos rfl, if_pos rfl]) (fun i hi => by rw [z_up_ne (by decide), z_up_app, if_pos rfl, if_neg (by omega)])) (by omega))
                · skip
                  try simp (disch := omega) only [zk0, nI_leI, nI_ltI, nI_eq, zbk_notn, zbk_not, zbk_n0, zbk_0, zb_0, zb_n0, zb_not, zb_notn, Bool.not_eq_false, Bool.not_eq_true, Bool.not_eq_true', Bool.not_eq_false', decide_eq_true_eq, decide_eq_false_iff_not, Classical.not_not] at c_135
                  have hus5 : (zusσ σ ne K vw nd) p9 n9 = true := by rw [hln]; exact (zln_us (by omega)).2
                  have hpn : p9 + n9 ≤ nd := (zus_t.mp hus5).1
                  refine z_aload_n X dX9_cuts_138 rfl ?_
                  refine z_iload X dX9_cuts_139 rfl ?_
                  refine z_iload X dX9_cuts_141 rfl ?_
                  refine z_iload_n X dX9_cuts_143 rfl ?_
                  refine z_runV X kX9_218 (tX9_entryAt (o := o) p9 n9 hS hPτ (by omega) (by omega) (by omega)) (zso_21 hS) rfl rfl (Nat.le_of_ble_eq_true rfl) ⟨by decide, by decide⟩ ⟨by decide, by decide⟩ dX9_cuts_144 ?_
                  rintro _ g1 s1 ⟨r9, rfl, h8, h9, hr⟩
                  replace h8 := h8.symm
                  subst h8
                  replace h9 := h9.symm
                  subst h9
                  have hr3 := zen_e hF2 hr
                  have hr4 : r9 ≠ -1 := by rcases zen_1 he2 hr3 with ⟨-, q⟩ | ⟨q, -⟩; rw [hus5] at q; exact absurd q (by decide); exact q
                  refine z_goto (tgt := 161) X dX9_cuts_147 (by decide) ?_
                  refine z_iastN X (zsa_40 hS) (by omega) (by omega) dX9_cuts_161 ?_
                  skip
                  refine z_iload X dX9_cuts_162 rfl ?_
                  refine z_iload X dX9_cuts_164 rfl ?_
                  refine z_if_le (tgt := 173) X dX9_cuts_166 (by decide) (fun c_166 => ?_) (fun c_166 => ?_)
                  · skip
                    try simp (disch := omega) only [zk0, nI_leI, nI_ltI, nI_eq, zbk_notn, zbk_not, zbk_n0, zbk_0, zb_0, zb_n0, zb_not, zb_notn, Bool.not_eq_false, Bool.not_eq_true, Bool.not_eq_true', Bool.not_eq_false', decide_eq_true_eq, decide_eq_false_iff_not, Classical.not_not] at c_166
                    refine z_iconst (v := nI 0) X (by decide) dX9_cuts_173 ?_
                    refine z_isubN X (by omega) dX9_cuts_174 ?_
                    refine z_istore X dX9_cuts_175 (by decide) ?_
                    refine z_iload X dX9_cuts_177 rfl ?_
                    refine z_iload X dX9_cuts_179 rfl ?_
                    refine z_if_le (tgt := 189) X dX9_cuts_181 (by decide) (fun c_181 => ?_) (fun c_181 => ?_)
                    · skip
                      try simp (disch := omega) only [zk0, nI_leI, nI_ltI, nI_eq, zbk_notn, zbk_not, zbk_n0, zbk_0, zb_0, zb_n0, zb_not, zb_notn, Bool.not_eq_false, Bool.not_eq_true, Bool.not_eq_true', Bool.not_eq_false', decide_eq_true_eq, decide_eq_false_iff_not, Classical.not_not] at c_181
                      refine z_iconst (v := nI 1) X (by decide) dX9_cuts_189 ?_
                      refine z_iaddN X dX9_cuts_190 ?_
                      refine z_istore X dX9_cuts_191 (by decide) ?_
                      refine z_aload_n X dX9_cuts_193 rfl ?_
                      refine z_dup X rfl dX9_cuts_194 ?_
                      refine z_geti X fX9_222 (zso_21 hS) rfl dX9_cuts_195 ?_
                      rw [z_up_ne (by decide), hcj]
                      refine z_iconst (v := nI 1) X (by decide) dX9_cuts_198 ?_
                      refine z_iaddN X dX9_cuts_199 ?_
                      refine z_puti X fX9_222 (zso_21 hS) rfl dX9_cuts_200 ?_
                      refine z_goto (tgt := 22) X dX9_cuts_203 (by decide) ?_
                      first
                      | (exfalso; omega)
                      | (have hcut := zcut_c (nd := nd) (T := T) (us := (zusσ σ ne K vw nd)) (p := p9) (left := f9) (by omega) (by omega)
                         rw [← hln] at hcut
                         rw [hcut] at hpre
                         exact ih_22 (p9 + n9) (f9 - 1) (j9 + 1) _ _ _ _ (by omega) (by omega) (by omega) (fun i h1 h2 => by rw [z_up_ne h1, z_up_ne h2]; exact hF i h1 h2) (fun k hk => by rw [z_up_app, if_pos rfl, if_neg hk, z_up_ne (by decide)]; exact hF21 k hk) (by rw [z_up_app, if_pos rfl, if_pos rfl]) (zpre_s hpre (x := r9) (Or.inr ⟨by show n9 ≠ 0; omega, hr3, hr4⟩) (by rw [z_up_ne (by decide), z_up_app, if_pos rfl, if_pos rfl]) (fun i hi => by rw [z_up_ne (by decide), z_up_app, if_pos rfl, if_neg (by omega)])) (by omega))
                      | (have hcut := zcut_p (nd := nd) (T := T) (us := (zusσ σ ne K vw nd)) (p := p9) (left := f9) (by omega) (by omega)
                         rw [hcut] at hpre
                         exact ih_22 (p9 + 1) (f9 - 0) (j9 + 1) _ _ _ _ (by omega) (by omega) (by omega) (fun i h1 h2 => by rw [z_up_ne h1, z_up_ne h2]; exact hF i h1 h2) (fun k hk => by rw [z_up_app, if_pos rfl, if_neg hk, z_up_ne (by decide)]; exact hF21 k hk) (by rw [z_up_app, if_pos rfl, if_pos rfl]) (zpre_s hpre (x := (-1) - nI (dd p9) - 1) (Or.inl ⟨rfl, rfl⟩) (by rw [z_up_ne (by decide), z_up_app, if_pos rfl, if_pos rfl]) (fun i hi => by rw [z_up_ne (by decide), z_up_app, if_pos rfl, if_neg (by omega)])) (by omega))
                    · skip
                      try simp (disch := omega) only [zk0, nI_leI, nI_ltI, nI_eq, zbk_notn, zbk_not, zbk_n0, zbk_0, zb_0, zb_n0, zb_not, zb_notn, Bool.not_eq_false, Bool.not_eq_true, Bool.not_eq_true', Bool.not_eq_false', decide_eq_true_eq, decide_eq_false_iff_not, Classical.not_not] at c_181
                      refine z_iload X dX9_cuts_184 rfl ?_
                      refine z_goto (tgt := 190) X dX9_cuts_186 (by decide) ?_
                      refine z_iaddN X dX9_cuts_190 ?_
                      refine z_istore X dX9_cuts_191 (by decide) ?_
                      refine z_aload_n X dX9_cuts_193 rfl ?_
                      refine z_dup X rfl dX9_cuts_194 ?_
                      refine z_geti X fX9_222 (zso_21 hS) rfl dX9_cuts_195 ?_
                      rw [z_up_ne (by decide), hcj]
                      refine z_iconst (v := nI 1) X (by decide) dX9_cuts_198 ?_
                      refine z_iaddN X dX9_cuts_199 ?_
                      refine z_puti X fX9_222 (zso_21 hS) rfl dX9_cuts_200 ?_
                      refine z_goto (tgt := 22) X dX9_cuts_203 (by decide) ?_
                      first
                      | (exfalso; omega)
                      | (have hcut := zcut_c (nd := nd) (T := T) (us := (zusσ σ ne K vw nd)) (p := p9) (left := f9) (by omega) (by omega)
                         rw [← hln] at hcut
                         rw [hcut] at hpre
                         exact ih_22 (p9 + n9) (f9 - 1) (j9 + 1) _ _ _ _ (by omega) (by omega) (by omega) (fun i h1 h2 => by rw [z_up_ne h1, z_up_ne h2]; exact hF i h1 h2) (fun k hk => by rw [z_up_app, if_pos rfl, if_neg hk, z_up_ne (by decide)]; exact hF21 k hk) (by rw [z_up_app, if_pos rfl, if_pos rfl]) (zpre_s hpre (x := r9) (Or.inr ⟨by show n9 ≠ 0; omega, hr3, hr4⟩) (by rw [z_up_ne (by decide), z_up_app, if_pos rfl, if_pos rfl]) (fun i hi => by rw [z_up_ne (by decide), z_up_app, if_pos rfl, if_neg (by omega)])) (by omega))
                      | (have hcut := zcut_p (nd := nd) (T := T) (us := (zusσ σ ne K vw nd)) (p := p9) (left := f9) (by omega) (by omega)
                         rw [hcut] at hpre
                         exact ih_22 (p9 + 1) (f9 - 0) (j9 + 1) _ _ _ _ (by omega) (by omega) (by omega) (fun i h1 h2 => by rw [z_up_ne h1, z_up_ne h2]; exact hF i h1 h2) (fun k hk => by rw [z_up_app, if_pos rfl, if_neg hk, z_up_ne (by decide)]; exact hF21 k hk) (by rw [z_up_app, if_pos rfl, if_pos rfl]) (zpre_s hpre (x := (-1) - nI (dd p9) - 1) (Or.inl ⟨rfl, rfl⟩) (by rw [z_up_ne (by decide), z_up_app, if_pos rfl, if_pos rfl]) (fun i hi => by rw [z_up_ne (by decide), z_up_app, if_pos rfl, if_neg (by omega)])) (by omega))
                  · skip
                    try simp (disch := omega) only [zk0, nI_leI, nI_ltI, nI_eq, zbk_notn, zbk_not, zbk_n0, zbk_0, zb_0, zb_n0, zb_not, zb_notn, Bool.not_eq_false, Bool.not_eq_true, Bool.not_eq_true', Bool.not_eq_false', decide_eq_true_eq, decide_eq_false_iff_not, Classical.not_not] at c_166
                    refine z_iconst (v := nI 1) X (by decide) dX9_cuts_169 ?_
                    refine z_goto (tgt := 174) X dX9_cuts_170 (by decide) ?_
                    refine z_isubN X (by omega) dX9_cuts_174 ?_
                    refine z_istore X dX9_cuts_175 (by decide) ?_
                    refine z_iload X dX9_cuts_177 rfl ?_
                    refine z_iload X dX9_cuts_179 rfl ?_
                    refine z_if_le (tgt := 189) X dX9_cuts_181 (by decide) (fun c_181 => ?_) (fun c_181 => ?_)
                    · skip
                      try simp (disch := omega) only [zk0, nI_leI, nI_ltI, nI_eq, zbk_notn, zbk_not, zbk_n0, zbk_0, zb_0, zb_n0, zb_not, zb_notn, Bool.not_eq_false, Bool.not_eq_true, Bool.not_eq_true', Bool.not_eq_false', decide_eq_true_eq, decide_eq_false_iff_not, Classical.not_not] at c_181
                      refine z_iconst (v := nI 1) X (by decide) dX9_cuts_189 ?_
                      refine z_iaddN X dX9_cuts_190 ?_
                      refine z_istore X dX9_cuts_191 (by decide) ?_
                      refine z_aload_n X dX9_cuts_193 rfl ?_
                      refine z_dup X rfl dX9_cuts_194 ?_
                      refine z_geti X fX9_222 (zso_21 hS) rfl dX9_cuts_195 ?_
                      rw [z_up_ne (by decide), hcj]
                      refine z_iconst (v := nI 1) X (by decide) dX9_cuts_198 ?_
                      refine z_iaddN X dX9_cuts_199 ?_
                      refine z_puti X fX9_222 (zso_21 hS) rfl dX9_cuts_200 ?_
                      refine z_goto (tgt := 22) X dX9_cuts_203 (by decide) ?_
                      first
                      | (exfalso; omega)
                      | (have hcut := zcut_c (nd := nd) (T := T) (us := (zusσ σ ne K vw nd)) (p := p9) (left := f9) (by omega) (by omega)
                         rw [← hln] at hcut
                         rw [hcut] at hpre
                         exact ih_22 (p9 + n9) (f9 - 1) (j9 + 1) _ _ _ _ (by omega) (by omega) (by omega) (fun i h1 h2 => by rw [z_up_ne h1, z_up_ne h2]; exact hF i h1 h2) (fun k hk => by rw [z_up_app, if_pos rfl, if_neg hk, z_up_ne (by decide)]; exact hF21 k hk) (by rw [z_up_app, if_pos rfl, if_pos rfl]) (zpre_s hpre (x := r9) (Or.inr ⟨by show n9 ≠ 0; omega, hr3, hr4⟩) (by rw [z_up_ne (by decide), z_up_app, if_pos rfl, if_pos rfl]) (fun i hi => by rw [z_up_ne (by decide), z_up_app, if_pos rfl, if_neg (by omega)])) (by omega))
                      | (have hcut := zcut_p (nd := nd) (T := T) (us := (zusσ σ ne K vw nd)) (p := p9) (left := f9) (by omega) (by omega)
                         rw [hcut] at hpre
                         exact ih_22 (p9 + 1) (f9 - 0) (j9 + 1) _ _ _ _ (by omega) (by omega) (by omega) (fun i h1 h2 => by rw [z_up_ne h1, z_up_ne h2]; exact hF i h1 h2) (fun k hk => by rw [z_up_app, if_pos rfl, if_neg hk, z_up_ne (by decide)]; exact hF21 k hk) (by rw [z_up_app, if_pos rfl, if_pos rfl]) (zpre_s hpre (x := (-1) - nI (dd p9) - 1) (Or.inl ⟨rfl, rfl⟩) (by rw [z_up_ne (by decide), z_up_app, if_pos rfl, if_pos rfl]) (fun i hi => by rw [z_up_ne (by decide), z_up_app, if_pos rfl, if_neg (by omega)])) (by omega))
                    · skip
                      try simp (disch := omega) only [zk0, nI_leI, nI_ltI, nI_eq, zbk_notn, zbk_not, zbk_n0, zbk_0, zb_0, zb_n0, zb_not, zb_notn, Bool.not_eq_false, Bool.not_eq_true, Bool.not_eq_true', Bool.not_eq_false', decide_eq_true_eq, decide_eq_false_iff_not, Classical.not_not] at c_181
                      refine z_iload X dX9_cuts_184 rfl ?_
                      refine z_goto (tgt := 190) X dX9_cuts_186 (by decide) ?_
                      refine z_iaddN X dX9_cuts_190 ?_
                      refine z_istore X dX9_cuts_191 (by decide) ?_
                      refine z_aload_n X dX9_cuts_193 rfl ?_
                      refine z_dup X rfl dX9_cuts_194 ?_
                      refine z_geti X fX9_222 (zso_21 hS) rfl dX9_cuts_195 ?_
                      rw [z_up_ne (by decide), hcj]
                      refine z_iconst (v := nI 1) X (by decide) dX9_cuts_198 ?_
                      refine z_iaddN X dX9_cuts_199 ?_
                      refine z_puti X fX9_222 (zso_21 hS) rfl dX9_cuts_200 ?_
                      refine z_goto (tgt := 22) X dX9_cuts_203 (by decide) ?_
                      first
                      | (exfalso; omega)
                      | (have hcut := zcut_c (nd := nd) (T := T) (us := (zusσ σ ne K vw nd)) (p := p9) (left := f9) (by omega) (by omega)
                         rw [← hln] at hcut
                         rw [hcut] at hpre
                         exact ih_22 (p9 + n9) (f9 - 1) (j9 + 1) _ _ _ _ (by omega) (by omega) (by omega) (fun i h1 h2 => by rw [z_up_ne h1, z_up_ne h2]; exact hF i h1 h2) (fun k hk => by rw [z_up_app, if_pos rfl, if_neg hk, z_up_ne (by decide)]; exact hF21 k hk) (by rw [z_up_app, if_pos rfl, if_pos rfl]) (zpre_s hpre (x := r9) (Or.inr ⟨by show n9 ≠ 0; omega, hr3, hr4⟩) (by rw [z_up_ne (by decide), z_up_app, if_pos rfl, if_pos rfl]) (fun i hi => by rw [z_up_ne (by decide), z_up_app, if_pos rfl, if_neg (by omega)])) (by omega))
                      | (have hcut := zcut_p (nd := nd) (T := T) (us := (zusσ σ ne K vw nd)) (p := p9) (left := f9) (by omega) (by omega)
                         rw [hcut] at hpre
                         exact ih_22 (p9 + 1) (f9 - 0) (j9 + 1) _ _ _ _ (by omega) (by omega) (by omega) (fun i h1 h2 => by rw [z_up_ne h1, z_up_ne h2]; exact hF i h1 h2) (fun k hk => by rw [z_up_app, if_pos rfl, if_neg hk, z_up_ne (by decide)]; exact hF21 k hk) (by rw [z_up_app, if_pos rfl, if_pos rfl]) (zpre_s hpre (x := (-1) - nI (dd p9) - 1) (Or.inl ⟨rfl, rfl⟩) (by rw [z_up_ne (by decide), z_up_app, if_pos rfl, if_pos rfl]) (fun i hi => by rw [z_up_ne (by decide), z_up_app, if_pos rfl, if_neg (by omega)])) (by omega))
              · skip
                try simp (disch := omega) only [zk0, nI_leI, nI_ltI, nI_eq, zbk_notn, zbk_not, zbk_n0, zbk_0, zb_0, zb_n0, zb_not, zb_notn, Bool.not_eq_false, Bool.not_eq_true, Bool.not_eq_true', Bool.not_eq_false', decide_eq_true_eq, decide_eq_false_iff_not, Classical.not_not] at c_44
                refine z_iload X dX9_cuts_47 rfl ?_
                refine z_if_le (tgt := 125) X dX9_cuts_49 (by decide) (fun c_49 => ?_) (fun c_49 => ?_)
                · skip
                  try simp (disch := omega) only [zk0, nI_leI, nI_ltI, nI_eq, zbk_notn, zbk_not, zbk_n0, zbk_0, zb_0, zb_n0, zb_not, zb_notn, Bool.not_eq_false, Bool.not_eq_true, Bool.not_eq_true', Bool.not_eq_false', decide_eq_true_eq, decide_eq_false_iff_not, Classical.not_not] at c_49
                  have hln : n9 = zln T (zusσ σ ne K vw nd) p9 f9 := by
                    rcases hl with ⟨q1, q2⟩ | ⟨-, q⟩
                    · rcases Nat.eq_zero_or_pos f9 with h0 | h0
                      · unfold zln; rw [if_neg (by omega)]; exact q1
                      · rw [q2 h0, show m9 = 0 by omega]; exact q1
                    · exact q
                  have hnf : 0 < n9 → 0 < f9 := fun h => (zln_us (T := T) (us := (zusσ σ ne K vw nd)) (p := p9) (l := f9) (by omega)).1
                  refine z_aload_n X dX9_cuts_125 rfl ?_
                  refine z_getr2 X fX9_65 (zso_21 hS) (zsr_21_24 hS) rfl dX9_cuts_126 ?_
                  refine z_aload_n X dX9_cuts_129 rfl ?_
                  refine z_geti X fX9_222 (zso_21 hS) rfl dX9_cuts_130 ?_
                  rw [hcj]
                  refine z_iload X dX9_cuts_133 rfl ?_
                  refine z_if_le (tgt := 150) X dX9_cuts_135 (by decide) (fun c_135 => ?_) (fun c_135 => ?_)
                  · skip
                    try simp (disch := omega) only [zk0, nI_leI, nI_ltI, nI_eq, zbk_notn, zbk_not, zbk_n0, zbk_0, zb_0, zb_n0, zb_not, zb_notn, Bool.not_eq_false, Bool.not_eq_true, Bool.not_eq_true', Bool.not_eq_false', decide_eq_true_eq, decide_eq_false_iff_not, Classical.not_not] at c_135
                    refine z_iconst (v := -1) X (by decide) dX9_cuts_150 ?_
                    refine z_aload_n X dX9_cuts_151 rfl ?_
                    refine z_getr2 X fX9_59 (zso_21 hS) (zsr_21_21 hS) rfl dX9_cuts_152 ?_
                    refine z_iload X dX9_cuts_155 rfl ?_
                    refine z_ialdN X (zsa_38 hS) (by omega) (by omega) dX9_cuts_157 ?_
                    rw [hF 38 (by decide) (by decide), (hdd p9 (by omega)).1]
                    refine z_isub X dX9_cuts_158 ?_
                    refine z_iconst (v := 1) X (by decide) dX9_cuts_159 ?_
                    refine z_isub X dX9_cuts_160 ?_
                    refine z_iastN X (zsa_40 hS) (by omega) (by omega) dX9_cuts_161 ?_
                    skip
                    refine z_iload X dX9_cuts_162 rfl ?_
                    refine z_iload X dX9_cuts_164 rfl ?_
                    refine z_if_le (tgt := 173) X dX9_cuts_166 (by decide) (fun c_166 => ?_) (fun c_166 => ?_)
                    · skip
                      try simp (disch := omega) only [zk0, nI_leI, nI_ltI, nI_eq, zbk_notn, zbk_not, zbk_n0, zbk_0, zb_0, zb_n0, zb_not, zb_notn, Bool.not_eq_false, Bool.not_eq_true, Bool.not_eq_true', Bool.not_eq_false', decide_eq_true_eq, decide_eq_false_iff_not, Classical.not_not] at c_166
                      refine z_iconst (v := nI 0) X (by decide) dX9_cuts_173 ?_
                      refine z_isubN X (by omega) dX9_cuts_174 ?_
                      refine z_istore X dX9_cuts_175 (by decide) ?_
                      refine z_iload X dX9_cuts_177 rfl ?_
                      refine z_iload X dX9_cuts_179 rfl ?_
                      refine z_if_le (tgt := 189) X dX9_cuts_181 (by decide) (fun c_181 => ?_) (fun c_181 => ?_)
                      · skip
                        try simp (disch := omega) only [zk0, nI_leI, nI_ltI, nI_eq, zbk_notn, zbk_not, zbk_n0, zbk_0, zb_0, zb_n0, zb_not, zb_notn, Bool.not_eq_false, Bool.not_eq_true, Bool.not_eq_true', Bool.not_eq_false', decide_eq_true_eq, decide_eq_false_iff_not, Classical.not_not] at c_181
                        refine z_iconst (v := nI 1) X (by decide) dX9_cuts_189 ?_
                        refine z_iaddN X dX9_cuts_190 ?_
                        refine z_istore X dX9_cuts_191 (by decide) ?_
                        refine z_aload_n X dX9_cuts_193 rfl ?_
                        refine z_dup X rfl dX9_cuts_194 ?_
                        refine z_geti X fX9_222 (zso_21 hS) rfl dX9_cuts_195 ?_
                        rw [z_up_ne (by decide), hcj]
                        refine z_iconst (v := nI 1) X (by decide) dX9_cuts_198 ?_
                        refine z_iaddN X dX9_cuts_199 ?_
                        refine z_puti X fX9_222 (zso_21 hS) rfl dX9_cuts_200 ?_
                        refine z_goto (tgt := 22) X dX9_cuts_203 (by decide) ?_
                        first
                        | (exfalso; omega)
                        | (have hcut := zcut_c (nd := nd) (T := T) (us := (zusσ σ ne K vw nd)) (p := p9) (left := f9) (by omega) (by omega)
                           rw [← hln] at hcut
                           rw [hcut] at hpre
                           exact ih_22 (p9 + n9) (f9 - 1) (j9 + 1) _ _ _ _ (by omega) (by omega) (by omega) (fun i h1 h2 => by rw [z_up_ne h1, z_up_ne h2]; exact hF i h1 h2) (fun k hk => by rw [z_up_app, if_pos rfl, if_neg hk, z_up_ne (by decide)]; exact hF21 k hk) (by rw [z_up_app, if_pos rfl, if_pos rfl]) (zpre_s hpre (x := r9) (Or.inr ⟨by show n9 ≠ 0; omega, hr3, hr4⟩) (by rw [z_up_ne (by decide), z_up_app, if_pos rfl, if_pos rfl]) (fun i hi => by rw [z_up_ne (by decide), z_up_app, if_pos rfl, if_neg (by omega)])) (by omega))
                        | (have hcut := zcut_p (nd := nd) (T := T) (us := (zusσ σ ne K vw nd)) (p := p9) (left := f9) (by omega) (by omega)
                           rw [hcut] at hpre
                           exact ih_22 (p9 + 1) (f9 - 0) (j9 + 1) _ _ _ _ (by omega) (by omega) (by omega) (fun i h1 h2 => by rw [z_up_ne h1, z_up_ne h2]; exact hF i h1 h2) (fun k hk => by rw [z_up_app, if_pos rfl, if_neg hk, z_up_ne (by decide)]; exact hF21 k hk) (by rw [z_up_app, if_pos rfl, if_pos rfl]) (zpre_s hpre (x := (-1) - nI (dd p9) - 1) (Or.inl ⟨rfl, rfl⟩) (by rw [z_up_ne (by decide), z_up_app, if_pos rfl, if_pos rfl]) (fun i hi => by rw [z_up_ne (by decide), z_up_app, if_pos rfl, if_neg (by omega)])) (by omega))
                      · skip
                        try simp (disch := omega) only [zk0, nI_leI, nI_ltI, nI_eq, zbk_notn, zbk_not, zbk_n0, zbk_0, zb_0, zb_n0, zb_not, zb_notn, Bool.not_eq_false, Bool.not_eq_true, Bool.not_eq_true', Bool.not_eq_false', decide_eq_true_eq, decide_eq_false_iff_not, Classical.not_not] at c_181
                        refine z_iload X dX9_cuts_184 rfl ?_
                        refine z_goto (tgt := 190) X dX9_cuts_186 (by decide) ?_
                        refine z_iaddN X dX9_cuts_190 ?_
                        refine z_istore X dX9_cuts_191 (by decide) ?_
                        refine z_aload_n X dX9_cuts_193 rfl ?_
                        refine z_dup X rfl dX9_cuts_194 ?_
                        refine z_geti X fX9_222 (zso_21 hS) rfl dX9_cuts_195 ?_
                        rw [z_up_ne (by decide), hcj]
                        refine z_iconst (v := nI 1) X (by decide) dX9_cuts_198 ?_
                        refine z_iaddN X dX9_cuts_199 ?_
                        refine z_puti X fX9_222 (zso_21 hS) rfl dX9_cuts_200 ?_
                        refine z_goto (tgt := 22) X dX9_cuts_203 (by decide) ?_
                        first
                        | (exfalso; omega)
                        | (have hcut := zcut_c (nd := nd) (T := T) (us := (zusσ σ ne K vw nd)) (p := p9) (left := f9) (by omega) (by omega)
                           rw [← hln] at hcut
                           rw [hcut] at hpre
                           exact ih_22 (p9 + n9) (f9 - 1) (j9 + 1) _ _ _ _ (by omega) (by omega) (by omega) (fun i h1 h2 => by rw [z_up_ne h1, z_up_ne h2]; exact hF i h1 h2) (fun k hk => by rw [z_up_app, if_pos rfl, if_neg hk, z_up_ne (by decide)]; exact hF21 k hk) (by rw [z_up_app, if_pos rfl, if_pos rfl]) (zpre_s hpre (x := r9) (Or.inr ⟨by show n9 ≠ 0; omega, hr3, hr4⟩) (by rw [z_up_ne (by decide), z_up_app, if_pos rfl, if_pos rfl]) (fun i hi => by rw [z_up_ne (by decide), z_up_app, if_pos rfl, if_neg (by omega)])) (by omega))
                        | (have hcut := zcut_p (nd := nd) (T := T) (us := (zusσ σ ne K vw nd)) (p := p9) (left := f9) (by omega) (by omega)
                           rw [hcut] at hpre
                           exact ih_22 (p9 + 1) (f9 - 0) (j9 + 1) _ _ _ _ (by omega) (by omega) (by omega) (fun i h1 h2 => by rw [z_up_ne h1, z_up_ne h2]; exact hF i h1 h2) (fun k hk => by rw [z_up_app, if_pos rfl, if_neg hk, z_up_ne (by decide)]; exact hF21 k hk) (by rw [z_up_app, if_pos rfl, if_pos rfl]) (zpre_s hpre (x := (-1) - nI (dd p9) - 1) (Or.inl ⟨rfl, rfl⟩) (by rw [z_up_ne (by decide), z_up_app, if_pos rfl, if_pos rfl]) (fun i hi => by rw [z_up_ne (by decide), z_up_app, if_pos rfl, if_neg (by omega)])) (by omega))
                    · skip
                      try simp (disch := omega) only [zk0, nI_leI, nI_ltI, nI_eq, zbk_notn, zbk_not, zbk_n0, zbk_0, zb_0, zb_n0, zb_not, zb_notn, Bool.not_eq_false, Bool.not_eq_true, Bool.not_eq_true', Bool.not_eq_false', decide_eq_true_eq, decide_eq_false_iff_not, Classical.not_not] at c_166
                      refine z_iconst (v := nI 1) X (by decide) dX9_cuts_169 ?_
                      refine z_goto (tgt := 174) X dX9_cuts_170 (by decide) ?_
                      refine z_isubN X (by omega) dX9_cuts_174 ?_
                      refine z_istore X dX9_cuts_175 (by decide) ?_
                      refine z_iload X dX9_cuts_177 rfl ?_
                      refine z_iload X dX9_cuts_179 rfl ?_
                      refine z_if_le (tgt := 189) X dX9_cuts_181 (by decide) (fun c_181 => ?_) (fun c_181 => ?_)
                      · skip
                        try simp (disch := omega) only [zk0, nI_leI, nI_ltI, nI_eq, zbk_notn, zbk_not, zbk_n0, zbk_0, zb_0, zb_n0, zb_not, zb_notn, Bool.not_eq_false, Bool.not_eq_true, Bool.not_eq_true', Bool.not_eq_false', decide_eq_true_eq, decide_eq_false_iff_not, Classical.not_not] at c_181
                        refine z_iconst (v := nI 1) X (by decide) dX9_cuts_189 ?_
                        refine z_iaddN X dX9_cuts_190 ?_
                        refine z_istore X dX9_cuts_191 (by decide) ?_
                        refine z_aload_n X dX9_cuts_193 rfl ?_
                        refine z_dup X rfl dX9_cuts_194 ?_
                        refine z_geti X fX9_222 (zso_21 hS) rfl dX9_cuts_195 ?_
                        rw [z_up_ne (by decide), hcj]
                        refine z_iconst (v := nI 1) X (by decide) dX9_cuts_198 ?_
                        refine z_iaddN X dX9_cuts_199 ?_
                        refine z_puti X fX9_222 (zso_21 hS) rfl dX9_cuts_200 ?_
                        refine z_goto (tgt := 22) X dX9_cuts_203 (by decide) ?_
                        first
                        | (exfalso; omega)
                        | (have hcut := zcut_c (nd := nd) (T := T) (us := (zusσ σ ne K vw nd)) (p := p9) (left := f9) (by omega) (by omega)
                           rw [← hln] at hcut
                           rw [hcut] at hpre
                           exact ih_22 (p9 + n9) (f9 - 1) (j9 + 1) _ _ _ _ (by omega) (by omega) (by omega) (fun i h1 h2 => by rw [z_up_ne h1, z_up_ne h2]; exact hF i h1 h2) (fun k hk => by rw [z_up_app, if_pos rfl, if_neg hk, z_up_ne (by decide)]; exact hF21 k hk) (by rw [z_up_app, if_pos rfl, if_pos rfl]) (zpre_s hpre (x := r9) (Or.inr ⟨by show n9 ≠ 0; omega, hr3, hr4⟩) (by rw [z_up_ne (by decide), z_up_app, if_pos rfl, if_pos rfl]) (fun i hi => by rw [z_up_ne (by decide), z_up_app, if_pos rfl, if_neg (by omega)])) (by omega))
                        | (have hcut := zcut_p (nd := nd) (T := T) (us := (zusσ σ ne K vw nd)) (p := p9) (left := f9) (by omega) (by omega)
                           rw [hcut] at hpre
                           exact ih_22 (p9 + 1) (f9 - 0) (j9 + 1) _ _ _ _ (by omega) (by omega) (by omega) (fun i h1 h2 => by rw [z_up_ne h1, z_up_ne h2]; exact hF i h1 h2) (fun k hk => by rw [z_up_app, if_pos rfl, if_neg hk, z_up_ne (by decide)]; exact hF21 k hk) (by rw [z_up_app, if_pos rfl, if_pos rfl]) (zpre_s hpre (x := (-1) - nI (dd p9) - 1) (Or.inl ⟨rfl, rfl⟩) (by rw [z_up_ne (by decide), z_up_app, if_pos rfl, if_pos rfl]) (fun i hi => by rw [z_up_ne (by decide), z_up_app, if_pos rfl, if_neg (by omega)])) (by omega))
                      · skip
                        try simp (disch := omega) only [zk0, nI_leI, nI_ltI, nI_eq, zbk_notn, zbk_not, zbk_n0, zbk_0, zb_0, zb_n0, zb_not, zb_notn, Bool.not_eq_false, Bool.not_eq_true, Bool.not_eq_true', Bool.not_eq_false', decide_eq_true_eq, decide_eq_false_iff_not, Classical.not_not] at c_181
                        refine z_iload X dX9_cuts_184 rfl ?_
                        refine z_goto (tgt := 190) X dX9_cuts_186 (by decide) ?_
                        refine z_iaddN X dX9_cuts_190 ?_
                        refine z_istore X dX9_cuts_191 (by decide) ?_
                        refine z_aload_n X dX9_cuts_193 rfl ?_
                        refine z_dup X rfl dX9_cuts_194 ?_
                        refine z_geti X fX9_222 (zso_21 hS) rfl dX9_cuts_195 ?_
                        rw [z_up_ne (by decide), hcj]
                        refine z_iconst (v := nI 1) X (by decide) dX9_cuts_198 ?_
                        refine z_iaddN X dX9_cuts_199 ?_
                        refine z_puti X fX9_222 (zso_21 hS) rfl dX9_cuts_200 ?_
                        refine z_goto (tgt := 22) X dX9_cuts_203 (by decide) ?_
                        first
                        | (exfalso; omega)
                        | (have hcut := zcut_c (nd := nd) (T := T) (us := (zusσ σ ne K vw nd)) (p := p9) (left := f9) (by omega) (by omega)
                           rw [← hln] at hcut
                           rw [hcut] at hpre
                           exact ih_22 (p9 + n9) (f9 - 1) (j9 + 1) _ _ _ _ (by omega) (by omega) (by omega) (fun i h1 h2 => by rw [z_up_ne h1, z_up_ne h2]; exact hF i h1 h2) (fun k hk => by rw [z_up_app, if_pos rfl, if_neg hk, z_up_ne (by decide)]; exact hF21 k hk) (by rw [z_up_app, if_pos rfl, if_pos rfl]) (zpre_s hpre (x := r9) (Or.inr ⟨by show n9 ≠ 0; omega, hr3, hr4⟩) (by rw [z_up_ne (by decide), z_up_app, if_pos rfl, if_pos rfl]) (fun i hi => by rw [z_up_ne (by decide), z_up_app, if_pos rfl, if_neg (by omega)])) (by omega))
                        | (have hcut := zcut_p (nd := nd) (T := T) (us := (zusσ σ ne K vw nd)) (p := p9) (left := f9) (by omega) (by omega)
                           rw [hcut] at hpre
                           exact ih_22 (p9 + 1) (f9 - 0) (j9 + 1) _ _ _ _ (by omega) (by omega) (by omega) (fun i h1 h2 => by rw [z_up_ne h1, z_up_ne h2]; exact hF i h1 h2) (fun k hk => by rw [z_up_app, if_pos rfl, if_neg hk, z_up_ne (by decide)]; exact hF21 k hk) (by rw [z_up_app, if_pos rfl, if_pos rfl]) (zpre_s hpre (x := (-1) - nI (dd p9) - 1) (Or.inl ⟨rfl, rfl⟩) (by rw [z_up_ne (by decide), z_up_app, if_pos rfl, if_pos rfl]) (fun i hi => by rw [z_up_ne (by decide), z_up_app, if_pos rfl, if_neg (by omega)])) (by omega))
                  · skip
                    try simp (disch := omega) only [zk0, nI_leI, nI_ltI, nI_eq, zbk_notn, zbk_not, zbk_n0, zbk_0, zb_0, zb_n0, zb_not, zb_notn, Bool.not_eq_false, Bool.not_eq_true, Bool.not_eq_true', Bool.not_eq_false', decide_eq_true_eq, decide_eq_false_iff_not, Classical.not_not] at c_135
                    have hus5 : (zusσ σ ne K vw nd) p9 n9 = true := by rw [hln]; exact (zln_us (by omega)).2
                    have hpn : p9 + n9 ≤ nd := (zus_t.mp hus5).1
                    refine z_aload_n X dX9_cuts_138 rfl ?_
                    refine z_iload X dX9_cuts_139 rfl ?_
                    refine z_iload X dX9_cuts_141 rfl ?_
                    refine z_iload_n X dX9_cuts_143 rfl ?_
                    refine z_runV X kX9_218 (tX9_entryAt (o := o) p9 n9 hS hPτ (by omega) (by omega) (by omega)) (zso_21 hS) rfl rfl (Nat.le_of_ble_eq_true rfl) ⟨by decide, by decide⟩ ⟨by decide, by decide⟩ dX9_cuts_144 ?_
                    rintro _ g1 s1 ⟨r9, rfl, h8, h9, hr⟩
                    replace h8 := h8.symm
                    subst h8
                    replace h9 := h9.symm
                    subst h9
                    have hr3 := zen_e hF2 hr
                    have hr4 : r9 ≠ -1 := by rcases zen_1 he2 hr3 with ⟨-, q⟩ | ⟨q, -⟩; rw [hus5] at q; exact absurd q (by decide); exact q
                    refine z_goto (tgt := 161) X dX9_cuts_147 (by decide) ?_
                    refine z_iastN X (zsa_40 hS) (by omega) (by omega) dX9_cuts_161 ?_
                    skip
                    refine z_iload X dX9_cuts_162 rfl ?_
                    refine z_iload X dX9_cuts_164 rfl ?_
                    refine z_if_le (tgt := 173) X dX9_cuts_166 (by decide) (fun c_166 => ?_) (fun c_166 => ?_)
                    · skip
                      try simp (disch := omega) only [zk0, nI_leI, nI_ltI, nI_eq, zbk_notn, zbk_not, zbk_n0, zbk_0, zb_0, zb_n0, zb_not, zb_notn, Bool.not_eq_false, Bool.not_eq_true, Bool.not_eq_true', Bool.not_eq_false', decide_eq_true_eq, decide_eq_false_iff_not, Classical.not_not] at c_166
                      refine z_iconst (v := nI 0) X (by decide) dX9_cuts_173 ?_
                      refine z_isubN X (by omega) dX9_cuts_174 ?_
                      refine z_istore X dX9_cuts_175 (by decide) ?_
                      refine z_iload X dX9_cuts_177 rfl ?_
                      refine z_iload X dX9_cuts_179 rfl ?_
                      refine z_if_le (tgt := 189) X dX9_cuts_181 (by decide) (fun c_181 => ?_) (fun c_181 => ?_)
                      · skip
                        try simp (disch := omega) only [zk0, nI_leI, nI_ltI, nI_eq, zbk_notn, zbk_not, zbk_n0, zbk_0, zb_0, zb_n0, zb_not, zb_notn, Bool.not_eq_false, Bool.not_eq_true, Bool.not_eq_true', Bool.not_eq_false', decide_eq_true_eq, decide_eq_false_iff_not, Classical.not_not] at c_181
                        refine z_iconst (v := nI 1) X (by decide) dX9_cuts_189 ?_
                        refine z_iaddN X dX9_cuts_190 ?_
                        refine z_istore X dX9_cuts_191 (by decide) ?_
                        refine z_aload_n X dX9_cuts_193 rfl ?_
                        refine z_dup X rfl dX9_cuts_194 ?_
                        refine z_geti X fX9_222 (zso_21 hS) rfl dX9_cuts_195 ?_
                        rw [z_up_ne (by decide), hcj]
                        refine z_iconst (v := nI 1) X (by decide) dX9_cuts_198 ?_
                        refine z_iaddN X dX9_cuts_199 ?_
                        refine z_puti X fX9_222 (zso_21 hS) rfl dX9_cuts_200 ?_
                        refine z_goto (tgt := 22) X dX9_cuts_203 (by decide) ?_
                        first
                        | (exfalso; omega)
                        | (have hcut := zcut_c (nd := nd) (T := T) (us := (zusσ σ ne K vw nd)) (p := p9) (left := f9) (by omega) (by omega)
                           rw [← hln] at hcut
                           rw [hcut] at hpre
                           exact ih_22 (p9 + n9) (f9 - 1) (j9 + 1) _ _ _ _ (by omega) (by omega) (by omega) (fun i h1 h2 => by rw [z_up_ne h1, z_up_ne h2]; exact hF i h1 h2) (fun k hk => by rw [z_up_app, if_pos rfl, if_neg hk, z_up_ne (by decide)]; exact hF21 k hk) (by rw [z_up_app, if_pos rfl, if_pos rfl]) (zpre_s hpre (x := r9) (Or.inr ⟨by show n9 ≠ 0; omega, hr3, hr4⟩) (by rw [z_up_ne (by decide), z_up_app, if_pos rfl, if_pos rfl]) (fun i hi => by rw [z_up_ne (by decide), z_up_app, if_pos rfl, if_neg (by omega)])) (by omega))
                        | (have hcut := zcut_p (nd := nd) (T := T) (us := (zusσ σ ne K vw nd)) (p := p9) (left := f9) (by omega) (by omega)
                           rw [hcut] at hpre
                           exact ih_22 (p9 + 1) (f9 - 0) (j9 + 1) _ _ _ _ (by omega) (by omega) (by omega) (fun i h1 h2 => by rw [z_up_ne h1, z_up_ne h2]; exact hF i h1 h2) (fun k hk => by rw [z_up_app, if_pos rfl, if_neg hk, z_up_ne (by decide)]; exact hF21 k hk) (by rw [z_up_app, if_pos rfl, if_pos rfl]) (zpre_s hpre (x := (-1) - nI (dd p9) - 1) (Or.inl ⟨rfl, rfl⟩) (by rw [z_up_ne (by decide), z_up_app, if_pos rfl, if_pos rfl]) (fun i hi => by rw [z_up_ne (by decide), z_up_app, if_pos rfl, if_neg (by omega)])) (by omega))
                      · skip
                        try simp (disch := omega) only [zk0, nI_leI, nI_ltI, nI_eq, zbk_notn, zbk_not, zbk_n0, zbk_0, zb_0, zb_n0, zb_not, zb_notn, Bool.not_eq_false, Bool.not_eq_true, Bool.not_eq_true', Bool.not_eq_false', decide_eq_true_eq, decide_eq_false_iff_not, Classical.not_not] at c_181
                        refine z_iload X dX9_cuts_184 rfl ?_
                        refine z_goto (tgt := 190) X dX9_cuts_186 (by decide) ?_
                        refine z_iaddN X dX9_cuts_190 ?_
                        refine z_istore X dX9_cuts_191 (by decide) ?_
                        refine z_aload_n X dX9_cuts_193 rfl ?_
                        refine z_dup X rfl dX9_cuts_194 ?_
                        refine z_geti X fX9_222 (zso_21 hS) rfl dX9_cuts_195 ?_
                        rw [z_up_ne (by decide), hcj]
                        refine z_iconst (v := nI 1) X (by decide) dX9_cuts_198 ?_
                        refine z_iaddN X dX9_cuts_199 ?_
                        refine z_puti X fX9_222 (zso_21 hS) rfl dX9_cuts_200 ?_
                        refine z_goto (tgt := 22) X dX9_cuts_203 (by decide) ?_
                        first
                        | (exfalso; omega)
                        | (have hcut := zcut_c (nd := nd) (T := T) (us := (zusσ σ ne K vw nd)) (p := p9) (left := f9) (by omega) (by omega)
                           rw [← hln] at hcut
                           rw [hcut] at hpre
                           exact ih_22 (p9 + n9) (f9 - 1) (j9 + 1) _ _ _ _ (by omega) (by omega) (by omega) (fun i h1 h2 => by rw [z_up_ne h1, z_up_ne h2]; exact hF i h1 h2) (fun k hk => by rw [z_up_app, if_pos rfl, if_neg hk, z_up_ne (by decide)]; exact hF21 k hk) (by rw [z_up_app, if_pos rfl, if_pos rfl]) (zpre_s hpre (x := r9) (Or.inr ⟨by show n9 ≠ 0; omega, hr3, hr4⟩) (by rw [z_up_ne (by decide), z_up_app, if_pos rfl, if_pos rfl]) (fun i hi => by rw [z_up_ne (by decide), z_up_app, if_pos rfl, if_neg (by omega)])) (by omega))
                        | (have hcut := zcut_p (nd := nd) (T := T) (us := (zusσ σ ne K vw nd)) (p := p9) (left := f9) (by omega) (by omega)
                           rw [hcut] at hpre
                           exact ih_22 (p9 + 1) (f9 - 0) (j9 + 1) _ _ _ _ (by omega) (by omega) (by omega) (fun i h1 h2 => by rw [z_up_ne h1, z_up_ne h2]; exact hF i h1 h2) (fun k hk => by rw [z_up_app, if_pos rfl, if_neg hk, z_up_ne (by decide)]; exact hF21 k hk) (by rw [z_up_app, if_pos rfl, if_pos rfl]) (zpre_s hpre (x := (-1) - nI (dd p9) - 1) (Or.inl ⟨rfl, rfl⟩) (by rw [z_up_ne (by decide), z_up_app, if_pos rfl, if_pos rfl]) (fun i hi => by rw [z_up_ne (by decide), z_up_app, if_pos rfl, if_neg (by omega)])) (by omega))
                    · skip
                      try simp (disch := omega) only [zk0, nI_leI, nI_ltI, nI_eq, zbk_notn, zbk_not, zbk_n0, zbk_0, zb_0, zb_n0, zb_not, zb_notn, Bool.not_eq_false, Bool.not_eq_true, Bool.not_eq_true', Bool.not_eq_false', decide_eq_true_eq, decide_eq_false_iff_not, Classical.not_not] at c_166
                      refine z_iconst (v := nI 1) X (by decide) dX9_cuts_169 ?_
                      refine z_goto (tgt := 174) X dX9_cuts_170 (by decide) ?_
                      refine z_isubN X (by omega) dX9_cuts_174 ?_
                      refine z_istore X dX9_cuts_175 (by decide) ?_
                      refine z_iload X dX9_cuts_177 rfl ?_
                      refine z_iload X dX9_cuts_179 rfl ?_
                      refine z_if_le (tgt := 189) X dX9_cuts_181 (by decide) (fun c_181 => ?_) (fun c_181 => ?_)
                      · skip
                        try simp (disch := omega) only [zk0, nI_leI, nI_ltI, nI_eq, zbk_notn, zbk_not, zbk_n0, zbk_0, zb_0, zb_n0, zb_not, zb_notn, Bool.not_eq_false, Bool.not_eq_true, Bool.not_eq_true', Bool.not_eq_false', decide_eq_true_eq, decide_eq_false_iff_not, Classical.not_not] at c_181
                        refine z_iconst (v := nI 1) X (by decide) dX9_cuts_189 ?_
                        refine z_iaddN X dX9_cuts_190 ?_
                        refine z_istore X dX9_cuts_191 (by decide) ?_
                        refine z_aload_n X dX9_cuts_193 rfl ?_
                        refine z_dup X rfl dX9_cuts_194 ?_
                        refine z_geti X fX9_222 (zso_21 hS) rfl dX9_cuts_195 ?_
                        rw [z_up_ne (by decide), hcj]
                        refine z_iconst (v := nI 1) X (by decide) dX9_cuts_198 ?_
                        refine z_iaddN X dX9_cuts_199 ?_
                        refine z_puti X fX9_222 (zso_21 hS) rfl dX9_cuts_200 ?_
                        refine z_goto (tgt := 22) X dX9_cuts_203 (by decide) ?_
                        first
                        | (exfalso; omega)
                        | (have hcut := zcut_c (nd := nd) (T := T) (us := (zusσ σ ne K vw nd)) (p := p9) (left := f9) (by omega) (by omega)
                           rw [← hln] at hcut
                           rw [hcut] at hpre
                           exact ih_22 (p9 + n9) (f9 - 1) (j9 + 1) _ _ _ _ (by omega) (by omega) (by omega) (fun i h1 h2 => by rw [z_up_ne h1, z_up_ne h2]; exact hF i h1 h2) (fun k hk => by rw [z_up_app, if_pos rfl, if_neg hk, z_up_ne (by decide)]; exact hF21 k hk) (by rw [z_up_app, if_pos rfl, if_pos rfl]) (zpre_s hpre (x := r9) (Or.inr ⟨by show n9 ≠ 0; omega, hr3, hr4⟩) (by rw [z_up_ne (by decide), z_up_app, if_pos rfl, if_pos rfl]) (fun i hi => by rw [z_up_ne (by decide), z_up_app, if_pos rfl, if_neg (by omega)])) (by omega))
                        | (have hcut := zcut_p (nd := nd) (T := T) (us := (zusσ σ ne K vw nd)) (p := p9) (left := f9) (by omega) (by omega)
                           rw [hcut] at hpre
                           exact ih_22 (p9 + 1) (f9 - 0) (j9 + 1) _ _ _ _ (by omega) (by omega) (by omega) (fun i h1 h2 => by rw [z_up_ne h1, z_up_ne h2]; exact hF i h1 h2) (fun k hk => by rw [z_up_app, if_pos rfl, if_neg hk, z_up_ne (by decide)]; exact hF21 k hk) (by rw [z_up_app, if_pos rfl, if_pos rfl]) (zpre_s hpre (x := (-1) - nI (dd p9) - 1) (Or.inl ⟨rfl, rfl⟩) (by rw [z_up_ne (by decide), z_up_app, if_pos rfl, if_pos rfl]) (fun i hi => by rw [z_up_ne (by decide), z_up_app, if_pos rfl, if_neg (by omega)])) (by omega))
                      · skip
                        try simp (disch := omega) only [zk0, nI_leI, nI_ltI, nI_eq, zbk_notn, zbk_not, zbk_n0, zbk_0, zb_0, zb_n0, zb_not, zb_notn, Bool.not_eq_false, Bool.not_eq_true, Bool.not_eq_true', Bool.not_eq_false', decide_eq_true_eq, decide_eq_false_iff_not, Classical.not_not] at c_181
                        refine z_iload X dX9_cuts_184 rfl ?_
                        refine z_goto (tgt := 190) X dX9_cuts_186 (by decide) ?_
                        refine z_iaddN X dX9_cuts_190 ?_
                        refine z_istore X dX9_cuts_191 (by decide) ?_
                        refine z_aload_n X dX9_cuts_193 rfl ?_
                        refine z_dup X rfl dX9_cuts_194 ?_
                        refine z_geti X fX9_222 (zso_21 hS) rfl dX9_cuts_195 ?_
                        rw [z_up_ne (by decide), hcj]
                        refine z_iconst (v := nI 1) X (by decide) dX9_cuts_198 ?_
                        refine z_iaddN X dX9_cuts_199 ?_
                        refine z_puti X fX9_222 (zso_21 hS) rfl dX9_cuts_200 ?_
                        refine z_goto (tgt := 22) X dX9_cuts_203 (by decide) ?_
                        first
                        | (exfalso; omega)
                        | (have hcut := zcut_c (nd := nd) (T := T) (us := (zusσ σ ne K vw nd)) (p := p9) (left := f9) (by omega) (by omega)
                           rw [← hln] at hcut
                           rw [hcut] at hpre
                           exact ih_22 (p9 + n9) (f9 - 1) (j9 + 1) _ _ _ _ (by omega) (by omega) (by omega) (fun i h1 h2 => by rw [z_up_ne h1, z_up_ne h2]; exact hF i h1 h2) (fun k hk => by rw [z_up_app, if_pos rfl, if_neg hk, z_up_ne (by decide)]; exact hF21 k hk) (by rw [z_up_app, if_pos rfl, if_pos rfl]) (zpre_s hpre (x := r9) (Or.inr ⟨by show n9 ≠ 0; omega, hr3, hr4⟩) (by rw [z_up_ne (by decide), z_up_app, if_pos rfl, if_pos rfl]) (fun i hi => by rw [z_up_ne (by decide), z_up_app, if_pos rfl, if_neg (by omega)])) (by omega))
                        | (have hcut := zcut_p (nd := nd) (T := T) (us := (zusσ σ ne K vw nd)) (p := p9) (left := f9) (by omega) (by omega)
                           rw [hcut] at hpre
                           exact ih_22 (p9 + 1) (f9 - 0) (j9 + 1) _ _ _ _ (by omega) (by omega) (by omega) (fun i h1 h2 => by rw [z_up_ne h1, z_up_ne h2]; exact hF i h1 h2) (fun k hk => by rw [z_up_app, if_pos rfl, if_neg hk, z_up_ne (by decide)]; exact hF21 k hk) (by rw [z_up_app, if_pos rfl, if_pos rfl]) (zpre_s hpre (x := (-1) - nI (dd p9) - 1) (Or.inl ⟨rfl, rfl⟩) (by rw [z_up_ne (by decide), z_up_app, if_pos rfl, if_pos rfl]) (fun i hi => by rw [z_up_ne (by decide), z_up_app, if_pos rfl, if_neg (by omega)])) (by omega))
                · skip
                  try simp (disch := omega) only [zk0, nI_leI, nI_ltI, nI_eq, zbk_notn, zbk_not, zbk_n0, zbk_0, zb_0, zb_n0, zb_not, zb_notn, Bool.not_eq_false, Bool.not_eq_true, Bool.not_eq_true', Bool.not_eq_false', decide_eq_true_eq, decide_eq_false_iff_not, Classical.not_not] at c_49
                  obtain ⟨m8, rfl⟩ : ∃ m8, m9 = m8 + 1 := ⟨m9 - 1, by omega⟩
                  have hz : zln T (zusσ σ ne K vw nd) p9 f9 = zlc T (zusσ σ ne K vw nd) p9 f9 (m8 + 1) := by rcases hl with ⟨-, q⟩ | ⟨q, -⟩; exact q (by omega); omega
                  obtain ⟨hT1, hT2⟩ := hT (by omega)
                  refine z_aload_n X dX9_cuts_52 rfl ?_
                  refine z_iload X dX9_cuts_53 rfl ?_
                  refine z_iload X dX9_cuts_55 rfl ?_
                  refine z_iload_n X dX9_cuts_57 rfl ?_
                  refine z_runV X kX9_218 (tX9_entryAt (o := o) p9 (m8 + 1) hS hPτ (by omega) (by omega) (by omega)) (zso_21 hS) rfl rfl (Nat.le_of_ble_eq_true rfl) ⟨by decide, by decide⟩ ⟨by decide, by decide⟩ dX9_cuts_58 ?_
                  rintro _ g1 s1 ⟨r9, rfl, h8, h9, hr⟩
                  replace h8 := h8.symm
                  subst h8
                  replace h9 := h9.symm
                  subst h9
                  have hr2 := zen_1 he2 (zen_e hF2 hr)
                  refine z_iconst (v := -1) X (by decide) dX9_cuts_61 ?_
                  refine z_icmp_eq (tgt := 103) X dX9_cuts_62 (by decide) (fun c_62 => ?_) (fun c_62 => ?_)
                  · skip
                    have hN : zln T (zusσ σ ne K vw nd) p9 f9 = zlc T (zusσ σ ne K vw nd) p9 f9 m8 := by
                      rw [hz, zlc, if_neg ?_]
                      first
                      | exact fun q => c_96 q.2
                      | (intro q; rcases hr2 with ⟨-, q2⟩ | ⟨q2, -⟩; rw [q2] at q; exact absurd q.1 (by decide); exact q2 c_62)
                    refine z_iconst (v := nI 0) X (by decide) dX9_cuts_103 ?_
                    refine z_istore X dX9_cuts_104 (by decide) ?_
                    refine z_iload X dX9_cuts_106 rfl ?_
                    refine z_if_eq (tgt := 116) X dX9_cuts_108 (by decide) (fun c_108 => ?_) (fun c_108 => ?_)
                    · skip
                      refine z_iconst (v := nI 0) X (by decide) dX9_cuts_116 ?_
                      refine z_istore X dX9_cuts_117 (by decide) ?_
                      refine z_iinc (v := -1) X dX9_cuts_119 rfl (by decide) (by decide) ?_
                      refine z_goto (tgt := 37) X dX9_cuts_122 (by decide) ?_
                      rw [zpm_m, zpm_s]
                      first | exact ih_37 m8 (m8 + 1) _ (by omega) (Or.inr ⟨by omega, hY.symm⟩) (by omega) | exact ih_37 m8 0 _ (by omega) (Or.inl ⟨rfl, fun _ => hN⟩) (by omega)
                    · first | exact absurd c_108 (by decide) | exact absurd (by decide) c_108
                  · skip
                    have hus : (zusσ σ ne K vw nd) p9 (m8 + 1) = true := by rcases hr2 with ⟨q, -⟩ | ⟨-, q⟩; exact absurd q c_62; exact q
                    have hpm : p9 + (m8 + 1) ≤ nd := (zus_t.mp hus).1
                    refine z_aload_n X dX9_cuts_65 rfl ?_
                    refine z_getr2 X fX9_62 (zso_21 hS) (zsr_21_23 hS) rfl dX9_cuts_66 ?_
                    refine z_bipush (v := nI 25) X (by decide) dX9_cuts_69 ?_
                    refine z_iload X dX9_cuts_71 rfl ?_
                    refine z_iload X dX9_cuts_73 rfl ?_
                    refine z_iaddN X dX9_cuts_75 ?_
                    refine z_imulN X dX9_cuts_76 ?_
                    refine z_iload X dX9_cuts_77 rfl ?_
                    refine z_iaddN X dX9_cuts_79 ?_
                    refine z_iconst (v := nI 1) X (by decide) dX9_cuts_80 ?_
                    refine z_isubN X (by omega) dX9_cuts_81 ?_
                    refine z_ialdN X (zsa_39 hS) (by omega) (by omega) dX9_cuts_82 ?_
                    rw [show 25 * (p9 + (m8 + 1)) + f9 - 1 = 25 * (p9 + (m8 + 1)) + (f9 - 1) by omega, hF 39 (by decide) (by decide), hT1 _ _ hpm (by omega)]
                    have hb1 := hT2 (p9 + (m8 + 1)) (f9 - 1)
                    refine z_aload_n X dX9_cuts_83 rfl ?_
                    refine z_getr2 X fX9_62 (zso_21 hS) (zsr_21_23 hS) rfl dX9_cuts_84 ?_
                    refine z_bipush (v := nI 25) X (by decide) dX9_cuts_87 ?_
                    refine z_iload X dX9_cuts_89 rfl ?_
                    refine z_imulN X dX9_cuts_91 ?_
                    refine z_iload X dX9_cuts_92 rfl ?_
                    refine z_iaddN X dX9_cuts_94 ?_
                    refine z_ialdN X (zsa_39 hS) (by omega) (by omega) dX9_cuts_95 ?_
                    rw [hF 39 (by decide) (by decide), hT1 p9 f9 (by omega) (by omega)]
                    have hb2 := hT2 p9 f9
                    refine z_icmp_ne (tgt := 103) X dX9_cuts_96 (by decide) (fun c_96 => ?_) (fun c_96 => ?_)
                    · skip
                      try simp (disch := omega) only [zk0, nI_leI, nI_ltI, nI_eq, zbk_notn, zbk_not, zbk_n0, zbk_0, zb_0, zb_n0, zb_not, zb_notn, Bool.not_eq_false, Bool.not_eq_true, Bool.not_eq_true', Bool.not_eq_false', decide_eq_true_eq, decide_eq_false_iff_not, Classical.not_not] at c_96
                      have hN : zln T (zusσ σ ne K vw nd) p9 f9 = zlc T (zusσ σ ne K vw nd) p9 f9 m8 := by
                        rw [hz, zlc, if_neg ?_]
                        first
                        | exact fun q => c_96 q.2
                        | (intro q; rcases hr2 with ⟨-, q2⟩ | ⟨q2, -⟩; rw [q2] at q; exact absurd q.1 (by decide); exact q2 c_62)
                      refine z_iconst (v := nI 0) X (by decide) dX9_cuts_103 ?_
                      refine z_istore X dX9_cuts_104 (by decide) ?_
                      refine z_iload X dX9_cuts_106 rfl ?_
                      refine z_if_eq (tgt := 116) X dX9_cuts_108 (by decide) (fun c_108 => ?_) (fun c_108 => ?_)
                      · skip
                        refine z_iconst (v := nI 0) X (by decide) dX9_cuts_116 ?_
                        refine z_istore X dX9_cuts_117 (by decide) ?_
                        refine z_iinc (v := -1) X dX9_cuts_119 rfl (by decide) (by decide) ?_
                        refine z_goto (tgt := 37) X dX9_cuts_122 (by decide) ?_
                        rw [zpm_m, zpm_s]
                        first | exact ih_37 m8 (m8 + 1) _ (by omega) (Or.inr ⟨by omega, hY.symm⟩) (by omega) | exact ih_37 m8 0 _ (by omega) (Or.inl ⟨rfl, fun _ => hN⟩) (by omega)
                      · first | exact absurd c_108 (by decide) | exact absurd (by decide) c_108
                    · skip
                      try simp (disch := omega) only [zk0, nI_leI, nI_ltI, nI_eq, zbk_notn, zbk_not, zbk_n0, zbk_0, zb_0, zb_n0, zb_not, zb_notn, Bool.not_eq_false, Bool.not_eq_true, Bool.not_eq_true', Bool.not_eq_false', decide_eq_true_eq, decide_eq_false_iff_not, Classical.not_not] at c_96
                      have hY : zln T (zusσ σ ne K vw nd) p9 f9 = m8 + 1 := by rw [hz, zlc, if_pos ⟨hus, c_96⟩]
                      refine z_iconst (v := nI 1) X (by decide) dX9_cuts_99 ?_
                      refine z_goto (tgt := 104) X dX9_cuts_100 (by decide) ?_
                      refine z_istore X dX9_cuts_104 (by decide) ?_
                      refine z_iload X dX9_cuts_106 rfl ?_
                      refine z_if_eq (tgt := 116) X dX9_cuts_108 (by decide) (fun c_108 => ?_) (fun c_108 => ?_)
                      · first | exact absurd c_108 (by decide) | exact absurd (by decide) c_108
                      · skip
                        refine z_iload X dX9_cuts_111 rfl ?_
                        refine z_goto (tgt := 117) X dX9_cuts_113 (by decide) ?_
                        refine z_istore X dX9_cuts_117 (by decide) ?_
                        refine z_iinc (v := -1) X dX9_cuts_119 rfl (by decide) (by decide) ?_
                        refine z_goto (tgt := 37) X dX9_cuts_122 (by decide) ?_
                        rw [zpm_m, zpm_s]
                        first | exact ih_37 m8 (m8 + 1) _ (by omega) (Or.inr ⟨by omega, hY.symm⟩) (by omega) | exact ih_37 m8 0 _ (by omega) (Or.inl ⟨rfl, fun _ => hN⟩) (by omega)
        refine z_iconst (v := nI 4) X (by decide) dX9_cuts_34 ?_
        refine z_istore X dX9_cuts_35 (by decide) ?_
        exact loop_37 (4 + 1) 4 0 _ (by omega) (Or.inl ⟨rfl, fun h0 => by unfold zln; rw [if_pos h0]⟩) (by omega)
  refine z_aload_n X dX9_cuts_17 rfl ?_
  refine z_iconst (v := nI 0) X (by decide) dX9_cuts_18 ?_
  refine z_puti X fX9_222 (zso_21 hS) rfl dX9_cuts_19 ?_
  exact loop_22 (nd - 0 + 1) 0 many 0 _ _ _ _ (Nat.zero_le _) (Nat.le_refl _) (Nat.le_refl _) (fun i h _ => by rw [z_up_ne h]) (fun k hk => by rw [z_up_app, if_pos rfl, if_neg hk]) (by rw [z_up_app, if_pos rfl, if_pos rfl]) ⟨[], rfl, rfl, fun i hi => absurd hi (Nat.not_lt_zero _)⟩ (by omega)
