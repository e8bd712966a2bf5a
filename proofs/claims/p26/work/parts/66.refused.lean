/-! the law: refused -/
theorem zxk {nms : List String} {k : Nat} {E : String} (j : Nat) (h : k = j + 1) (e : nms[j]? = some E) : zXk nms k E := ⟨j, h, e⟩
theorem zne_0 {k j : Nat} (h : k = j + 1) : k ≠ 0 := by omega
theorem zR_entry1 {κ : zIn} {ni ne : Nat} {w a b c d : Int32} (h : zin a ni = false) : zx_entry κ ni ne w a b c d = 1 := if_pos (fun q => by rw [h] at q; exact absurd q.1 (by decide))
theorem zR_entry2 {κ : zIn} {ni ne : Nat} {w a b c d : Int32} (h : zin a ni = true ∧ zino b ni = true ∧ zino c ni = true ∧ zino d ni = true) (h2 : (w < 0 ∨ 11881375 < w) ∨ (b = -1 ∧ c ≠ -1) ∨ (c = -1 ∧ d ≠ -1)) : zx_entry κ ni ne w a b c d = 2 := (if_neg (fun q => q h)).trans (if_pos h2)
theorem zR_send1 {no nd nm : Nat} {rte : Prop} {a b k : Int32} (h : ¬ (zin a no = true ∧ zin b no = true)) : zx_send no nd nm rte a b k = 1 := if_pos h
theorem zR_send2 {no nd nm : Nat} {rte : Prop} {a b k : Int32} (h : zin a no = true ∧ zin b no = true) (h2 : a = b ∨ (k < 0 ∨ 2 < k)) : zx_send no nd nm rte a b k = 2 := (if_neg (fun q => q h)).trans (if_pos h2)
theorem zR_in {m : Nat} {x : Int32} (h : zin x m = false) : zx_in m x = 1 := if_neg (fun q => by rw [h] at q; exact absurd q (by decide))
theorem zR_not {b c : Bool} (h : b = false) : ¬ (b = true ∧ c = true) := fun q => by rw [h] at q; exact absurd q.1 (by decide)
theorem zR_and {b : Bool} {p : Prop} (h : b = false) : ¬ (b = true ∧ p) := fun q => by rw [h] at q; exact absurd q.1 (by decide)
theorem zlcmp_0 (x : Int64) : lg_cmp x x = 0 := by unfold lg_cmp; simp
set_option maxHeartbeats 4000000 in
set_option maxRecDepth 100000 in
theorem tL_refused {l : Launch} {D : va_G} {cy : Nat → ClassId} {z0 : zRg} {ao ai ad : Nat} {κ : zIn} {n : Nat → Nat} {g2 : zSh} {σ2 : zIn} {w : Nat → zSh} {τ : Nat → zIn} (hfl : l.stackTraces = false) (hL : zLc ao ai ad κ n g2 σ2 w τ) (h0 : n 0 = 5) (h3 : n 3 = 4) (h4 : n 4 = 5) (hd3 : σ2 1 3 = nI (n 6)) (hd0 : σ2 1 0 = nI (n 3)) : z_Cn (zc0 NL_refused) l D cy z0 NL_refused [.ref ao, .ref ad] (zJg w) (zJs τ) (zBs ao ai ad κ n g2 σ2 (.int (nI 1))) := by
  have hn6 : n 6 ≤ 60 := hL.1.M.1.2
  have hn5 : n 5 ≤ 12 := hL.1.K.1.2.1
  refine z_ofN (by decide) (z_cr (z_cr z_c0)) (Nat.le_of_ble_eq_true rfl) ?_
  intro p e s m args below meth c X Y
  refine z_aload_n X dL_refused_0 rfl ?_
  refine z_aload_n X dL_refused_1 rfl ?_
  refine z_runSn X Y kL_127 (tL_all hL (Or.inl ⟨rfl, rfl⟩) hd3 hd0) rfl rfl (Nat.le_of_ble_eq_true rfl) ⟨by decide, by decide⟩ ⟨by decide, by decide⟩ dL_refused_2 ?_
  rintro _ _ _ ⟨w, τ, rfl, rfl, rfl, hL⟩
  refine z_lstore_n X dL_refused_5 (by decide) ?_ rfl (Nat.le_of_ble_eq_true rfl)
  refine z_aload_n X dL_refused_6 rfl ?_
  refine z_iconst (v := nI 0) X (by decide) dL_refused_7 ?_
  refine z_iconst (v := nI 0) X (by decide) dL_refused_8 ?_
  refine z_iconst (v := nI 0) X (by decide) dL_refused_9 ?_
  refine z_iconst (v := nI 0) X (by decide) dL_refused_10 ?_
  refine z_iconst (v := nI 0) X (by decide) dL_refused_11 ?_
  refine z_iconst (v := nI 0) X (by decide) dL_refused_12 ?_
  refine z_runSW X Y wL_112 (tB_no hL (zxk (E := zIX) 0 (if_pos (by decide)) rfl) (fun _ _ h z1 => tL_does_0 hfl (zso_1 h.S) (nI 0) (nI 0) (nI 0) (nI 0) (nI 0) (tC_idea hfl h (nI 0)))) rfl rfl (Nat.le_of_ble_eq_true rfl) ⟨by decide, by decide⟩ ⟨by decide, by decide⟩ dL_refused_13 ?_
  rintro _ _ _ ⟨w, τ, rfl, rfl, rfl, hL⟩
  rw [zcd_X]
  refine z_ldc X qL_20 dL_refused_16 ?_
  refine z_icmp_ne (tgt := 282) X dL_refused_18 (by decide) (fun c_18 => ?_) (fun c_18 => ?_)
  · exact absurd rfl c_18
  · skip
    refine z_aload_n X dL_refused_21 rfl ?_
    refine z_iconst (v := nI 1) X (by decide) dL_refused_22 ?_
    refine z_iconst (v := nI 0) X (by decide) dL_refused_23 ?_
    refine z_bipush (v := nI 30) X (by decide) dL_refused_24 ?_
    refine z_iconst (v := -1) X (by decide) dL_refused_26 ?_
    refine z_iconst (v := -1) X (by decide) dL_refused_27 ?_
    refine z_iconst (v := -1) X (by decide) dL_refused_28 ?_
    refine z_runSW X Y wL_112 (tB_no hL (zxk (E := zIO) 0 (zR_entry1 (by rw [h0]; exact zin_nI_f (by decide) (by decide))) rfl) (fun _ _ h z1 => tL_does_1 hfl (zso_1 h.S) (nI 0) (nI 30) (-1) (-1) (-1) (tC_entry hfl h _ _ _ _ _))) rfl rfl (Nat.le_of_ble_eq_true rfl) ⟨by decide, by decide⟩ ⟨by decide, by decide⟩ dL_refused_29 ?_
    rintro _ _ _ ⟨w, τ, rfl, rfl, rfl, hL⟩
    rw [zcd_O]
    refine z_ldc X qL_17 dL_refused_32 ?_
    refine z_icmp_ne (tgt := 282) X dL_refused_34 (by decide) (fun c_34 => ?_) (fun c_34 => ?_)
    · exact absurd rfl c_34
    · skip
      refine z_aload_n X dL_refused_37 rfl ?_
      refine z_iconst (v := nI 1) X (by decide) dL_refused_38 ?_
      refine z_ldc X qL_119 dL_refused_39 ?_
      refine z_iconst (v := nI 0) X (by decide) dL_refused_41 ?_
      refine z_iconst (v := -1) X (by decide) dL_refused_42 ?_
      refine z_iconst (v := -1) X (by decide) dL_refused_43 ?_
      refine z_iconst (v := -1) X (by decide) dL_refused_44 ?_
      refine z_runSW X Y wL_112 (tB_no hL (zxk (E := zIX) 1 (zR_entry2 (by rw [h0]; exact ⟨zin_nI (by decide) (by decide), by decide, by decide, by decide⟩) (Or.inl (Or.inr (by decide)))) rfl) (fun _ _ h z1 => tL_does_1 hfl (zso_1 h.S) 11881376 (nI 0) (-1) (-1) (-1) (tC_entry hfl h _ _ _ _ _))) rfl rfl (Nat.le_of_ble_eq_true rfl) ⟨by decide, by decide⟩ ⟨by decide, by decide⟩ dL_refused_45 ?_
      rintro _ _ _ ⟨w, τ, rfl, rfl, rfl, hL⟩
      rw [zcd_X]
      refine z_ldc X qL_20 dL_refused_48 ?_
      refine z_icmp_ne (tgt := 282) X dL_refused_50 (by decide) (fun c_50 => ?_) (fun c_50 => ?_)
      · exact absurd rfl c_50
      · skip
        refine z_aload_n X dL_refused_53 rfl ?_
        refine z_iconst (v := nI 1) X (by decide) dL_refused_54 ?_
        refine z_iconst (v := nI 0) X (by decide) dL_refused_55 ?_
        refine z_iconst (v := nI 0) X (by decide) dL_refused_56 ?_
        refine z_iconst (v := -1) X (by decide) dL_refused_57 ?_
        refine z_iconst (v := -1) X (by decide) dL_refused_58 ?_
        refine z_iconst (v := nI 0) X (by decide) dL_refused_59 ?_
        refine z_runSW X Y wL_112 (tB_no hL (zxk (E := zIX) 1 (zR_entry2 (by rw [h0]; exact ⟨zin_nI (by decide) (by decide), by decide, by decide, by decide⟩) (Or.inr (Or.inr ⟨rfl, by decide⟩))) rfl) (fun _ _ h z1 => tL_does_1 hfl (zso_1 h.S) (nI 0) (nI 0) (-1) (-1) (nI 0) (tC_entry hfl h _ _ _ _ _))) rfl rfl (Nat.le_of_ble_eq_true rfl) ⟨by decide, by decide⟩ ⟨by decide, by decide⟩ dL_refused_60 ?_
        rintro _ _ _ ⟨w, τ, rfl, rfl, rfl, hL⟩
        rw [zcd_X]
        refine z_ldc X qL_20 dL_refused_63 ?_
        refine z_icmp_ne (tgt := 282) X dL_refused_65 (by decide) (fun c_65 => ?_) (fun c_65 => ?_)
        · exact absurd rfl c_65
        · skip
          refine z_aload_n X dL_refused_68 rfl ?_
          refine z_iconst (v := nI 2) X (by decide) dL_refused_69 ?_
          refine z_ldc X qL_119 dL_refused_70 ?_
          refine z_iconst (v := nI 0) X (by decide) dL_refused_72 ?_
          refine z_iconst (v := nI 0) X (by decide) dL_refused_73 ?_
          refine z_iconst (v := nI 0) X (by decide) dL_refused_74 ?_
          refine z_iconst (v := nI 0) X (by decide) dL_refused_75 ?_
          refine z_runSW X Y wL_112 (tB_no hL (zxk (E := zIX) 0 (if_pos (by decide)) rfl) (fun _ _ h z1 => tL_does_2 hfl (zso_1 h.S) 11881376 (nI 0) (nI 0) (nI 0) (nI 0) (tC_cands hfl h _))) rfl rfl (Nat.le_of_ble_eq_true rfl) ⟨by decide, by decide⟩ ⟨by decide, by decide⟩ dL_refused_76 ?_
          rintro _ _ _ ⟨w, τ, rfl, rfl, rfl, hL⟩
          rw [zcd_X]
          refine z_ldc X qL_20 dL_refused_79 ?_
          refine z_icmp_ne (tgt := 282) X dL_refused_81 (by decide) (fun c_81 => ?_) (fun c_81 => ?_)
          · exact absurd rfl c_81
          · skip
            refine z_aload_n X dL_refused_84 rfl ?_
            refine z_iconst (v := nI 3) X (by decide) dL_refused_85 ?_
            refine z_iconst (v := nI 0) X (by decide) dL_refused_86 ?_
            refine z_iconst (v := -1) X (by decide) dL_refused_87 ?_
            refine z_iconst (v := nI 0) X (by decide) dL_refused_88 ?_
            refine z_iconst (v := nI 0) X (by decide) dL_refused_89 ?_
            refine z_iconst (v := nI 0) X (by decide) dL_refused_90 ?_
            refine z_runSW X Y wL_112 (tB_no hL (zxk (E := zIO) 0 (if_pos (by decide)) rfl) (fun _ _ h z1 => tL_does_3 hfl (zso_1 h.S) (nI 0) (-1) (nI 0) (nI 0) (nI 0) (tD_cand hfl h _ _ (zne_0 (j := 0) (if_pos (by decide)))))) rfl rfl (Nat.le_of_ble_eq_true rfl) ⟨by decide, by decide⟩ ⟨by decide, by decide⟩ dL_refused_91 ?_
            rintro _ _ _ ⟨w, τ, rfl, rfl, rfl, hL⟩
            rw [zcd_O]
            refine z_ldc X qL_17 dL_refused_94 ?_
            refine z_icmp_ne (tgt := 282) X dL_refused_96 (by decide) (fun c_96 => ?_) (fun c_96 => ?_)
            · exact absurd rfl c_96
            · skip
              refine z_aload_n X dL_refused_99 rfl ?_
              refine z_iconst (v := nI 5) X (by decide) dL_refused_100 ?_
              refine z_iconst (v := nI 0) X (by decide) dL_refused_101 ?_
              refine z_bipush (v := nI 8) X (by decide) dL_refused_102 ?_
              refine z_iconst (v := nI 1) X (by decide) dL_refused_104 ?_
              refine z_iconst (v := nI 1) X (by decide) dL_refused_105 ?_
              refine z_iconst (v := nI 0) X (by decide) dL_refused_106 ?_
              refine z_runSW X Y wL_112 (tB_no hL (zxk (E := zIO) 0 (by rw [h3, h4]; decide) rfl) (fun _ _ h z1 => tL_does_5 hfl (zso_1 h.S) (nI 0) (nI 8) (nI 1) (nI 1) (nI 0) (tC_cable hfl h _ _ _ _))) rfl rfl (Nat.le_of_ble_eq_true rfl) ⟨by decide, by decide⟩ ⟨by decide, by decide⟩ dL_refused_107 ?_
              rintro _ _ _ ⟨w, τ, rfl, rfl, rfl, hL⟩
              rw [zcd_O]
              refine z_ldc X qL_17 dL_refused_110 ?_
              refine z_icmp_ne (tgt := 282) X dL_refused_112 (by decide) (fun c_112 => ?_) (fun c_112 => ?_)
              · exact absurd rfl c_112
              · skip
                refine z_aload_n X dL_refused_115 rfl ?_
                refine z_iconst (v := nI 5) X (by decide) dL_refused_116 ?_
                refine z_iconst (v := nI 1) X (by decide) dL_refused_117 ?_
                refine z_iconst (v := nI 1) X (by decide) dL_refused_118 ?_
                refine z_iconst (v := nI 1) X (by decide) dL_refused_119 ?_
                refine z_iconst (v := nI 1) X (by decide) dL_refused_120 ?_
                refine z_iconst (v := nI 0) X (by decide) dL_refused_121 ?_
                refine z_runSW X Y wL_112 (tB_no hL (zxk (E := zIX) 1 (by rw [h3, h4]; decide) rfl) (fun _ _ h z1 => tL_does_5 hfl (zso_1 h.S) (nI 1) (nI 1) (nI 1) (nI 1) (nI 0) (tC_cable hfl h _ _ _ _))) rfl rfl (Nat.le_of_ble_eq_true rfl) ⟨by decide, by decide⟩ ⟨by decide, by decide⟩ dL_refused_122 ?_
                rintro _ _ _ ⟨w, τ, rfl, rfl, rfl, hL⟩
                rw [zcd_X]
                refine z_ldc X qL_20 dL_refused_125 ?_
                refine z_icmp_ne (tgt := 282) X dL_refused_127 (by decide) (fun c_127 => ?_) (fun c_127 => ?_)
                · exact absurd rfl c_127
                · skip
                  refine z_aload_n X dL_refused_130 rfl ?_
                  refine z_iconst (v := nI 5) X (by decide) dL_refused_131 ?_
                  refine z_iconst (v := nI 0) X (by decide) dL_refused_132 ?_
                  refine z_iconst (v := nI 1) X (by decide) dL_refused_133 ?_
                  refine z_iconst (v := nI 0) X (by decide) dL_refused_134 ?_
                  refine z_iconst (v := nI 1) X (by decide) dL_refused_135 ?_
                  refine z_iconst (v := nI 0) X (by decide) dL_refused_136 ?_
                  refine z_runSW X Y wL_112 (tB_no hL (zxk (E := zIX) 1 (by rw [h3, h4]; decide) rfl) (fun _ _ h z1 => tL_does_5 hfl (zso_1 h.S) (nI 0) (nI 1) (nI 0) (nI 1) (nI 0) (tC_cable hfl h _ _ _ _))) rfl rfl (Nat.le_of_ble_eq_true rfl) ⟨by decide, by decide⟩ ⟨by decide, by decide⟩ dL_refused_137 ?_
                  rintro _ _ _ ⟨w, τ, rfl, rfl, rfl, hL⟩
                  rw [zcd_X]
                  refine z_ldc X qL_20 dL_refused_140 ?_
                  refine z_icmp_ne (tgt := 282) X dL_refused_142 (by decide) (fun c_142 => ?_) (fun c_142 => ?_)
                  · exact absurd rfl c_142
                  · skip
                    refine z_aload_n X dL_refused_145 rfl ?_
                    refine z_bipush (v := nI 6) X (by decide) dL_refused_146 ?_
                    refine z_bipush (v := nI 12) X (by decide) dL_refused_148 ?_
                    refine z_iconst (v := nI 0) X (by decide) dL_refused_150 ?_
                    refine z_iconst (v := nI 0) X (by decide) dL_refused_151 ?_
                    refine z_iconst (v := nI 0) X (by decide) dL_refused_152 ?_
                    refine z_iconst (v := nI 0) X (by decide) dL_refused_153 ?_
                    refine z_runSW X Y wL_112 (tB_no hL (zxk (E := zIO) 0 (by rw [h4]; decide) rfl) (fun _ _ h z1 => tL_does_6 hfl (zso_1 h.S) (nI 12) (nI 0) (nI 0) (nI 0) (nI 0) (tC_broken hfl h _ _ (zb_01 _)))) rfl rfl (Nat.le_of_ble_eq_true rfl) ⟨by decide, by decide⟩ ⟨by decide, by decide⟩ dL_refused_154 ?_
                    rintro _ _ _ ⟨w, τ, rfl, rfl, rfl, hL⟩
                    rw [zcd_O]
                    refine z_ldc X qL_17 dL_refused_157 ?_
                    refine z_icmp_ne (tgt := 282) X dL_refused_159 (by decide) (fun c_159 => ?_) (fun c_159 => ?_)
                    · exact absurd rfl c_159
                    · skip
                      refine z_aload_n X dL_refused_162 rfl ?_
                      refine z_bipush (v := nI 7) X (by decide) dL_refused_163 ?_
                      refine z_iconst (v := -1) X (by decide) dL_refused_165 ?_
                      refine z_iconst (v := nI 0) X (by decide) dL_refused_166 ?_
                      refine z_iconst (v := nI 0) X (by decide) dL_refused_167 ?_
                      refine z_iconst (v := nI 0) X (by decide) dL_refused_168 ?_
                      refine z_iconst (v := nI 0) X (by decide) dL_refused_169 ?_
                      refine z_runSW X Y wL_112 (tB_no hL (zxk (E := zIO) 0 (by rw [h3]; decide) rfl) (fun _ _ h z1 => tL_does_7 hfl (zso_1 h.S) (-1) (nI 0) (nI 0) (nI 0) (nI 0) (tC_forbid hfl h _ _ (zb_01 _)))) rfl rfl (Nat.le_of_ble_eq_true rfl) ⟨by decide, by decide⟩ ⟨by decide, by decide⟩ dL_refused_170 ?_
                      rintro _ _ _ ⟨w, τ, rfl, rfl, rfl, hL⟩
                      rw [zcd_O]
                      refine z_ldc X qL_17 dL_refused_173 ?_
                      refine z_icmp_ne (tgt := 282) X dL_refused_175 (by decide) (fun c_175 => ?_) (fun c_175 => ?_)
                      · exact absurd rfl c_175
                      · skip
                        refine z_aload_n X dL_refused_178 rfl ?_
                        refine z_bipush (v := nI 8) X (by decide) dL_refused_179 ?_
                        refine z_iconst (v := nI 0) X (by decide) dL_refused_181 ?_
                        refine z_iconst (v := -1) X (by decide) dL_refused_182 ?_
                        refine z_iconst (v := nI 0) X (by decide) dL_refused_183 ?_
                        refine z_iconst (v := nI 0) X (by decide) dL_refused_184 ?_
                        refine z_iconst (v := nI 0) X (by decide) dL_refused_185 ?_
                        refine z_runSW X Y wL_112 (tB_no hL (zxk (E := zIX) 1 (by rw [h3]; decide) rfl) (fun _ _ h z1 => tL_does_8 hfl (zso_1 h.S) (nI 0) (-1) (nI 0) (nI 0) (nI 0) (tC_key hfl h _ _))) rfl rfl (Nat.le_of_ble_eq_true rfl) ⟨by decide, by decide⟩ ⟨by decide, by decide⟩ dL_refused_186 ?_
                        rintro _ _ _ ⟨w, τ, rfl, rfl, rfl, hL⟩
                        rw [zcd_X]
                        refine z_ldc X qL_20 dL_refused_189 ?_
                        refine z_icmp_ne (tgt := 282) X dL_refused_191 (by decide) (fun c_191 => ?_) (fun c_191 => ?_)
                        · exact absurd rfl c_191
                        · skip
                          refine z_aload_n X dL_refused_194 rfl ?_
                          refine z_bipush (v := nI 9) X (by decide) dL_refused_195 ?_
                          refine z_iconst (v := -1) X (by decide) dL_refused_197 ?_
                          refine z_iconst (v := nI 5) X (by decide) dL_refused_198 ?_
                          refine z_iconst (v := nI 5) X (by decide) dL_refused_199 ?_
                          refine z_iconst (v := nI 0) X (by decide) dL_refused_200 ?_
                          refine z_iconst (v := nI 0) X (by decide) dL_refused_201 ?_
                          refine z_runSW X Y wL_112 (tB_no hL (zxk (E := zIX) 0 (if_pos (by decide)) rfl) (fun _ _ h z1 => tL_does_9 hfl (zso_1 h.S) (-1) (nI 5) (nI 5) (nI 0) (nI 0) (tC_conf hfl h _ _ _ _))) rfl rfl (Nat.le_of_ble_eq_true rfl) ⟨by decide, by decide⟩ ⟨by decide, by decide⟩ dL_refused_202 ?_
                          rintro _ _ _ ⟨w, τ, rfl, rfl, rfl, hL⟩
                          rw [zcd_X]
                          refine z_ldc X qL_20 dL_refused_205 ?_
                          refine z_icmp_ne (tgt := 282) X dL_refused_207 (by decide) (fun c_207 => ?_) (fun c_207 => ?_)
                          · exact absurd rfl c_207
                          · skip
                            refine z_aload_n X dL_refused_210 rfl ?_
                            refine z_bipush (v := nI 10) X (by decide) dL_refused_211 ?_
                            refine z_bipush (v := nI 8) X (by decide) dL_refused_213 ?_
                            refine z_iconst (v := nI 1) X (by decide) dL_refused_215 ?_
                            refine z_iconst (v := nI 0) X (by decide) dL_refused_216 ?_
                            refine z_iconst (v := nI 0) X (by decide) dL_refused_217 ?_
                            refine z_iconst (v := nI 0) X (by decide) dL_refused_218 ?_
                            refine z_runSW X Y wL_112 (tB_no hL (zxk (E := zIO) 0 (if_pos (Or.inl (by rw [h3]; decide))) rfl) (fun _ _ h z1 => tL_does_10 hfl (zso_1 h.S) (nI 8) (nI 1) (nI 0) (nI 0) (nI 0) (tC_reserve hfl h _ _))) rfl rfl (Nat.le_of_ble_eq_true rfl) ⟨by decide, by decide⟩ ⟨by decide, by decide⟩ dL_refused_219 ?_
                            rintro _ _ _ ⟨w, τ, rfl, rfl, rfl, hL⟩
                            rw [zcd_O]
                            refine z_ldc X qL_17 dL_refused_222 ?_
                            refine z_icmp_ne (tgt := 282) X dL_refused_224 (by decide) (fun c_224 => ?_) (fun c_224 => ?_)
                            · exact absurd rfl c_224
                            · skip
                              refine z_aload_n X dL_refused_227 rfl ?_
                              refine z_bipush (v := nI 10) X (by decide) dL_refused_228 ?_
                              refine z_iconst (v := nI 0) X (by decide) dL_refused_230 ?_
                              refine z_bipush (v := nI 13) X (by decide) dL_refused_231 ?_
                              refine z_iconst (v := nI 0) X (by decide) dL_refused_233 ?_
                              refine z_iconst (v := nI 0) X (by decide) dL_refused_234 ?_
                              refine z_iconst (v := nI 0) X (by decide) dL_refused_235 ?_
                              refine z_runSW X Y wL_112 (tB_no hL (zxk (E := zIO) 0 (if_pos (Or.inr (Or.inr ((nI_ltI (by omega) (by decide)).mpr (by omega))))) rfl) (fun _ _ h z1 => tL_does_10 hfl (zso_1 h.S) (nI 0) (nI 13) (nI 0) (nI 0) (nI 0) (tC_reserve hfl h _ _))) rfl rfl (Nat.le_of_ble_eq_true rfl) ⟨by decide, by decide⟩ ⟨by decide, by decide⟩ dL_refused_236 ?_
                              rintro _ _ _ ⟨w, τ, rfl, rfl, rfl, hL⟩
                              rw [zcd_O]
                              refine z_ldc X qL_17 dL_refused_239 ?_
                              refine z_icmp_ne (tgt := 282) X dL_refused_241 (by decide) (fun c_241 => ?_) (fun c_241 => ?_)
                              · exact absurd rfl c_241
                              · skip
                                refine z_aload_n X dL_refused_244 rfl ?_
                                refine z_bipush (v := nI 11) X (by decide) dL_refused_245 ?_
                                refine z_bipush (v := nI 30) X (by decide) dL_refused_247 ?_
                                refine z_iconst (v := nI 0) X (by decide) dL_refused_249 ?_
                                refine z_iconst (v := nI 0) X (by decide) dL_refused_250 ?_
                                refine z_iconst (v := nI 0) X (by decide) dL_refused_251 ?_
                                refine z_iconst (v := nI 0) X (by decide) dL_refused_252 ?_
                                refine z_runSW X Y wL_112 (tB_no hL (zxk (E := zIO) 0 (if_pos (by rw [h0]; decide)) rfl) (fun _ _ h z1 => tL_does_11 hfl (zso_1 h.S) (nI 30) (nI 0) (nI 0) (nI 0) (nI 0) (tC_draft hfl h _))) rfl rfl (Nat.le_of_ble_eq_true rfl) ⟨by decide, by decide⟩ ⟨by decide, by decide⟩ dL_refused_253 ?_
                                rintro _ _ _ ⟨w, τ, rfl, rfl, rfl, hL⟩
                                rw [zcd_O]
                                refine z_ldc X qL_17 dL_refused_256 ?_
                                refine z_icmp_ne (tgt := 282) X dL_refused_258 (by decide) (fun c_258 => ?_) (fun c_258 => ?_)
                                · exact absurd rfl c_258
                                · skip
                                  refine z_aload_n X dL_refused_261 rfl ?_
                                  refine z_bipush (v := nI 12) X (by decide) dL_refused_262 ?_
                                  refine z_bipush (v := nI 8) X (by decide) dL_refused_264 ?_
                                  refine z_iconst (v := nI 0) X (by decide) dL_refused_266 ?_
                                  refine z_iconst (v := nI 0) X (by decide) dL_refused_267 ?_
                                  refine z_iconst (v := nI 0) X (by decide) dL_refused_268 ?_
                                  refine z_iconst (v := nI 0) X (by decide) dL_refused_269 ?_
                                  refine z_runSW X Y wL_112 (tB_no hL (zxk (E := zIO) 0 (by rw [h3]; decide) rfl) (fun _ _ h z1 => tL_does_12 hfl (zso_1 h.S) (nI 8) (nI 0) (nI 0) (nI 0) (nI 0) (tD_words hfl h (decide (nI 0 = nI 1)) (nI 8) (zne_0 (j := 0) (by rw [h3]; decide))))) rfl rfl (Nat.le_of_ble_eq_true rfl) ⟨by decide, by decide⟩ ⟨by decide, by decide⟩ dL_refused_270 ?_
                                  rintro _ _ _ ⟨w, τ, rfl, rfl, rfl, hL⟩
                                  rw [zcd_O]
                                  refine z_ldc X qL_17 dL_refused_273 ?_
                                  refine z_icmp_ne (tgt := 282) X dL_refused_275 (by decide) (fun c_275 => ?_) (fun c_275 => ?_)
                                  · exact absurd rfl c_275
                                  · skip
                                    refine z_iconst (v := nI 1) X (by decide) dL_refused_278 ?_
                                    refine z_goto (tgt := 283) X dL_refused_279 (by decide) ?_
                                    refine z_istore X dL_refused_283 (by decide) ?_
                                    refine z_iload X dL_refused_285 rfl ?_
                                    refine z_if_eq (tgt := 502) X dL_refused_287 (by decide) (fun c_287 => ?_) (fun c_287 => ?_)
                                    · first | exact absurd c_287 (by decide) | exact absurd (by decide) c_287
                                    · skip
                                      refine z_aload_n X dL_refused_290 rfl ?_
                                      refine z_bipush (v := nI 13) X (by decide) dL_refused_291 ?_
                                      refine z_bipush (v := nI 8) X (by decide) dL_refused_293 ?_
                                      refine z_iconst (v := nI 0) X (by decide) dL_refused_295 ?_
                                      refine z_iconst (v := nI 0) X (by decide) dL_refused_296 ?_
                                      refine z_iconst (v := nI 0) X (by decide) dL_refused_297 ?_
                                      refine z_iconst (v := nI 0) X (by decide) dL_refused_298 ?_
                                      refine z_runSW X Y wL_112 (tB_no hL (zxk (E := zIO) 0 (zR_send1 (by rw [h3]; decide)) rfl) (fun _ _ h z1 => tL_does_13 hfl (zso_1 h.S) (nI 8) (nI 0) (nI 0) (nI 0) (nI 0) (tC_send hfl h (decide (nI 0 = nI 1)) _ _ _))) rfl rfl (Nat.le_of_ble_eq_true rfl) ⟨by decide, by decide⟩ ⟨by decide, by decide⟩ dL_refused_299 ?_
                                      rintro _ _ _ ⟨w, τ, rfl, rfl, rfl, hL⟩
                                      rw [zcd_O]
                                      refine z_ldc X qL_17 dL_refused_302 ?_
                                      refine z_icmp_ne (tgt := 502) X dL_refused_304 (by decide) (fun c_304 => ?_) (fun c_304 => ?_)
                                      · exact absurd rfl c_304
                                      · skip
                                        refine z_aload_n X dL_refused_307 rfl ?_
                                        refine z_bipush (v := nI 13) X (by decide) dL_refused_308 ?_
                                        refine z_iconst (v := nI 1) X (by decide) dL_refused_310 ?_
                                        refine z_iconst (v := nI 1) X (by decide) dL_refused_311 ?_
                                        refine z_iconst (v := nI 0) X (by decide) dL_refused_312 ?_
                                        refine z_iconst (v := nI 0) X (by decide) dL_refused_313 ?_
                                        refine z_iconst (v := nI 0) X (by decide) dL_refused_314 ?_
                                        refine z_runSW X Y wL_112 (tB_no hL (zxk (E := zIX) 1 (zR_send2 (by rw [h3]; decide) (Or.inl rfl)) rfl) (fun _ _ h z1 => tL_does_13 hfl (zso_1 h.S) (nI 1) (nI 1) (nI 0) (nI 0) (nI 0) (tC_send hfl h (decide (nI 0 = nI 1)) _ _ _))) rfl rfl (Nat.le_of_ble_eq_true rfl) ⟨by decide, by decide⟩ ⟨by decide, by decide⟩ dL_refused_315 ?_
                                        rintro _ _ _ ⟨w, τ, rfl, rfl, rfl, hL⟩
                                        rw [zcd_X]
                                        refine z_ldc X qL_20 dL_refused_318 ?_
                                        refine z_icmp_ne (tgt := 502) X dL_refused_320 (by decide) (fun c_320 => ?_) (fun c_320 => ?_)
                                        · exact absurd rfl c_320
                                        · skip
                                          refine z_aload_n X dL_refused_323 rfl ?_
                                          refine z_bipush (v := nI 13) X (by decide) dL_refused_324 ?_
                                          refine z_iconst (v := nI 0) X (by decide) dL_refused_326 ?_
                                          refine z_iconst (v := nI 1) X (by decide) dL_refused_327 ?_
                                          refine z_iconst (v := -1) X (by decide) dL_refused_328 ?_
                                          refine z_iconst (v := nI 0) X (by decide) dL_refused_329 ?_
                                          refine z_iconst (v := nI 0) X (by decide) dL_refused_330 ?_
                                          refine z_runSW X Y wL_112 (tB_no hL (zxk (E := zIX) 1 (zR_send2 (by rw [h3]; decide) (Or.inr (Or.inl (by decide)))) rfl) (fun _ _ h z1 => tL_does_13 hfl (zso_1 h.S) (nI 0) (nI 1) (-1) (nI 0) (nI 0) (tC_send hfl h (decide (nI 0 = nI 1)) _ _ _))) rfl rfl (Nat.le_of_ble_eq_true rfl) ⟨by decide, by decide⟩ ⟨by decide, by decide⟩ dL_refused_331 ?_
                                          rintro _ _ _ ⟨w, τ, rfl, rfl, rfl, hL⟩
                                          rw [zcd_X]
                                          refine z_ldc X qL_20 dL_refused_334 ?_
                                          refine z_icmp_ne (tgt := 502) X dL_refused_336 (by decide) (fun c_336 => ?_) (fun c_336 => ?_)
                                          · exact absurd rfl c_336
                                          · skip
                                            refine z_aload_n X dL_refused_339 rfl ?_
                                            refine z_bipush (v := nI 14) X (by decide) dL_refused_340 ?_
                                            refine z_bipush (v := nI 60) X (by decide) dL_refused_342 ?_
                                            refine z_iconst (v := nI 0) X (by decide) dL_refused_344 ?_
                                            refine z_iconst (v := nI 0) X (by decide) dL_refused_345 ?_
                                            refine z_iconst (v := nI 0) X (by decide) dL_refused_346 ?_
                                            refine z_iconst (v := nI 0) X (by decide) dL_refused_347 ?_
                                            refine z_runSW X Y wL_112 (tB_no hL (zxk (E := zIO) 0 (if_pos (zR_not (zin_nI_f (by omega) (by decide)))) rfl) (fun _ _ h z1 => tL_does_14 hfl (zso_1 h.S) (nI 60) (nI 0) (nI 0) (nI 0) (nI 0) (tC_wrong hfl h _ _ _ _))) rfl rfl (Nat.le_of_ble_eq_true rfl) ⟨by decide, by decide⟩ ⟨by decide, by decide⟩ dL_refused_348 ?_
                                            rintro _ _ _ ⟨w, τ, rfl, rfl, rfl, hL⟩
                                            rw [zcd_O]
                                            refine z_ldc X qL_17 dL_refused_351 ?_
                                            refine z_icmp_ne (tgt := 502) X dL_refused_353 (by decide) (fun c_353 => ?_) (fun c_353 => ?_)
                                            · exact absurd rfl c_353
                                            · skip
                                              refine z_aload_n X dL_refused_356 rfl ?_
                                              refine z_bipush (v := nI 15) X (by decide) dL_refused_357 ?_
                                              refine z_iconst (v := nI 0) X (by decide) dL_refused_359 ?_
                                              refine z_iconst (v := nI 0) X (by decide) dL_refused_360 ?_
                                              refine z_iconst (v := nI 0) X (by decide) dL_refused_361 ?_
                                              refine z_iconst (v := nI 0) X (by decide) dL_refused_362 ?_
                                              refine z_iconst (v := nI 0) X (by decide) dL_refused_363 ?_
                                              refine z_runSW X Y wL_112 (tB_no hL (zxk (E := zIX) 0 (if_pos (by decide)) rfl) (fun _ _ h z1 => tL_does_15 hfl (zso_1 h.S) (nI 0) (nI 0) (nI 0) (nI 0) (nI 0) (tC_pass hfl h _))) rfl rfl (Nat.le_of_ble_eq_true rfl) ⟨by decide, by decide⟩ ⟨by decide, by decide⟩ dL_refused_364 ?_
                                              rintro _ _ _ ⟨w, τ, rfl, rfl, rfl, hL⟩
                                              rw [zcd_X]
                                              refine z_ldc X qL_20 dL_refused_367 ?_
                                              refine z_icmp_ne (tgt := 502) X dL_refused_369 (by decide) (fun c_369 => ?_) (fun c_369 => ?_)
                                              · exact absurd rfl c_369
                                              · skip
                                                refine z_aload_n X dL_refused_372 rfl ?_
                                                refine z_bipush (v := nI 16) X (by decide) dL_refused_373 ?_
                                                refine z_bipush (v := nI 101) X (by decide) dL_refused_375 ?_
                                                refine z_iconst (v := nI 0) X (by decide) dL_refused_377 ?_
                                                refine z_iconst (v := nI 0) X (by decide) dL_refused_378 ?_
                                                refine z_iconst (v := nI 0) X (by decide) dL_refused_379 ?_
                                                refine z_iconst (v := nI 0) X (by decide) dL_refused_380 ?_
                                                refine z_runSW X Y wL_112 (tB_no hL (zxk (E := zIX) 0 (if_pos (by decide)) rfl) (fun _ _ h z1 => tL_does_16 hfl (zso_1 h.S) (nI 101) (nI 0) (nI 0) (nI 0) (nI 0) (tC_rest hfl h _))) rfl rfl (Nat.le_of_ble_eq_true rfl) ⟨by decide, by decide⟩ ⟨by decide, by decide⟩ dL_refused_381 ?_
                                                rintro _ _ _ ⟨w, τ, rfl, rfl, rfl, hL⟩
                                                rw [zcd_X]
                                                refine z_ldc X qL_20 dL_refused_384 ?_
                                                refine z_icmp_ne (tgt := 502) X dL_refused_386 (by decide) (fun c_386 => ?_) (fun c_386 => ?_)
                                                · exact absurd rfl c_386
                                                · skip
                                                  refine z_aload_n X dL_refused_389 rfl ?_
                                                  refine z_bipush (v := nI 17) X (by decide) dL_refused_390 ?_
                                                  refine z_bipush (v := nI 60) X (by decide) dL_refused_392 ?_
                                                  refine z_iconst (v := nI 0) X (by decide) dL_refused_394 ?_
                                                  refine z_iconst (v := nI 0) X (by decide) dL_refused_395 ?_
                                                  refine z_iconst (v := nI 0) X (by decide) dL_refused_396 ?_
                                                  refine z_iconst (v := nI 0) X (by decide) dL_refused_397 ?_
                                                  refine z_runSW X Y wL_112 (tB_no hL (zxk (E := zIO) 0 (if_pos (fun q => absurd (q.symm.trans (zin_nI_f (by omega) (by decide))) (by decide))) rfl) (fun _ _ h z1 => tL_does_17 hfl (zso_1 h.S) (nI 60) (nI 0) (nI 0) (nI 0) (nI 0) (tD_of hfl h _ _ (zne_0 (j := 0) (if_pos (fun q => absurd (q.symm.trans (zin_nI_f (by omega) (by decide))) (by decide))))))) rfl rfl (Nat.le_of_ble_eq_true rfl) ⟨by decide, by decide⟩ ⟨by decide, by decide⟩ dL_refused_398 ?_
                                                  rintro _ _ _ ⟨w, τ, rfl, rfl, rfl, hL⟩
                                                  rw [zcd_O]
                                                  refine z_ldc X qL_17 dL_refused_401 ?_
                                                  refine z_icmp_ne (tgt := 502) X dL_refused_403 (by decide) (fun c_403 => ?_) (fun c_403 => ?_)
                                                  · exact absurd rfl c_403
                                                  · skip
                                                    refine z_aload_n X dL_refused_406 rfl ?_
                                                    refine z_bipush (v := nI 18) X (by decide) dL_refused_407 ?_
                                                    refine z_iconst (v := -1) X (by decide) dL_refused_409 ?_
                                                    refine z_iconst (v := nI 0) X (by decide) dL_refused_410 ?_
                                                    refine z_iconst (v := nI 0) X (by decide) dL_refused_411 ?_
                                                    refine z_iconst (v := nI 0) X (by decide) dL_refused_412 ?_
                                                    refine z_iconst (v := nI 0) X (by decide) dL_refused_413 ?_
                                                    refine z_runSW X Y wL_112 (tB_no hL (zxk (E := zIO) 0 (rfl) rfl) (fun _ _ h z1 => tL_does_18 hfl (zso_1 h.S) (-1) (nI 0) (nI 0) (nI 0) (nI 0) (tD_word hfl h (decide (nI 0 = nI 1)) _ _ zin_m1))) rfl rfl (Nat.le_of_ble_eq_true rfl) ⟨by decide, by decide⟩ ⟨by decide, by decide⟩ dL_refused_414 ?_
                                                    rintro _ _ _ ⟨w, τ, rfl, rfl, rfl, hL⟩
                                                    rw [zcd_O]
                                                    refine z_ldc X qL_17 dL_refused_417 ?_
                                                    refine z_icmp_ne (tgt := 502) X dL_refused_419 (by decide) (fun c_419 => ?_) (fun c_419 => ?_)
                                                    · exact absurd rfl c_419
                                                    · skip
                                                      refine z_aload_n X dL_refused_422 rfl ?_
                                                      refine z_bipush (v := nI 19) X (by decide) dL_refused_423 ?_
                                                      refine z_bipush (v := nI 60) X (by decide) dL_refused_425 ?_
                                                      refine z_iconst (v := nI 0) X (by decide) dL_refused_427 ?_
                                                      refine z_iconst (v := nI 0) X (by decide) dL_refused_428 ?_
                                                      refine z_iconst (v := nI 0) X (by decide) dL_refused_429 ?_
                                                      refine z_iconst (v := nI 0) X (by decide) dL_refused_430 ?_
                                                      refine z_runSW X Y wL_112 (tB_no hL (zxk (E := zIO) 0 (if_pos (zR_and (zin_nI_f (by omega) (by decide)))) rfl) (fun _ _ h z1 => tL_does_19 hfl (zso_1 h.S) (nI 60) (nI 0) (nI 0) (nI 0) (nI 0) (tD_read hfl h _ _ (zne_0 (j := 0) (if_pos (zR_and (zin_nI_f (by omega) (by decide)))))))) rfl rfl (Nat.le_of_ble_eq_true rfl) ⟨by decide, by decide⟩ ⟨by decide, by decide⟩ dL_refused_431 ?_
                                                      rintro _ _ _ ⟨w, τ, rfl, rfl, rfl, hL⟩
                                                      rw [zcd_O]
                                                      refine z_ldc X qL_17 dL_refused_434 ?_
                                                      refine z_icmp_ne (tgt := 502) X dL_refused_436 (by decide) (fun c_436 => ?_) (fun c_436 => ?_)
                                                      · exact absurd rfl c_436
                                                      · skip
                                                        refine z_aload_n X dL_refused_439 rfl ?_
                                                        refine z_bipush (v := nI 20) X (by decide) dL_refused_440 ?_
                                                        refine z_iconst (v := -1) X (by decide) dL_refused_442 ?_
                                                        refine z_iconst (v := nI 0) X (by decide) dL_refused_443 ?_
                                                        refine z_iconst (v := nI 0) X (by decide) dL_refused_444 ?_
                                                        refine z_iconst (v := nI 0) X (by decide) dL_refused_445 ?_
                                                        refine z_iconst (v := nI 0) X (by decide) dL_refused_446 ?_
                                                        refine z_runSW X Y wL_112 (tB_no hL (zxk (E := zIO) 0 (zR_in zin_m1) rfl) (fun _ _ h z1 => tL_does_20 hfl (zso_1 h.S) (-1) (nI 0) (nI 0) (nI 0) (nI 0) (tD_claim hfl h _ (zne_0 (j := 0) (zR_in zin_m1))))) rfl rfl (Nat.le_of_ble_eq_true rfl) ⟨by decide, by decide⟩ ⟨by decide, by decide⟩ dL_refused_447 ?_
                                                        rintro _ _ _ ⟨w, τ, rfl, rfl, rfl, hL⟩
                                                        rw [zcd_O]
                                                        refine z_ldc X qL_17 dL_refused_450 ?_
                                                        refine z_icmp_ne (tgt := 502) X dL_refused_452 (by decide) (fun c_452 => ?_) (fun c_452 => ?_)
                                                        · exact absurd rfl c_452
                                                        · skip
                                                          refine z_aload_n X dL_refused_455 rfl ?_
                                                          refine z_bipush (v := nI 21) X (by decide) dL_refused_456 ?_
                                                          refine z_bipush (v := nI 8) X (by decide) dL_refused_458 ?_
                                                          refine z_iconst (v := nI 0) X (by decide) dL_refused_460 ?_
                                                          refine z_iconst (v := nI 0) X (by decide) dL_refused_461 ?_
                                                          refine z_iconst (v := nI 0) X (by decide) dL_refused_462 ?_
                                                          refine z_iconst (v := nI 0) X (by decide) dL_refused_463 ?_
                                                          refine z_runSW X Y wL_112 (tB_no hL (zxk (E := zIO) 0 (by rw [h3]; decide) rfl) (fun _ _ h z1 => tL_does_21 hfl (zso_1 h.S) (nI 8) (nI 0) (nI 0) (nI 0) (nI 0) (tD_acc hfl h _ (zne_0 (j := 0) (by rw [h3]; decide))))) rfl rfl (Nat.le_of_ble_eq_true rfl) ⟨by decide, by decide⟩ ⟨by decide, by decide⟩ dL_refused_464 ?_
                                                          rintro _ _ _ ⟨w, τ, rfl, rfl, rfl, hL⟩
                                                          rw [zcd_O]
                                                          refine z_ldc X qL_17 dL_refused_467 ?_
                                                          refine z_icmp_ne (tgt := 502) X dL_refused_469 (by decide) (fun c_469 => ?_) (fun c_469 => ?_)
                                                          · exact absurd rfl c_469
                                                          · skip
                                                            refine z_aload_n X dL_refused_472 rfl ?_
                                                            refine z_bipush (v := nI 22) X (by decide) dL_refused_473 ?_
                                                            refine z_iconst (v := -1) X (by decide) dL_refused_475 ?_
                                                            refine z_iconst (v := nI 0) X (by decide) dL_refused_476 ?_
                                                            refine z_iconst (v := nI 0) X (by decide) dL_refused_477 ?_
                                                            refine z_iconst (v := nI 0) X (by decide) dL_refused_478 ?_
                                                            refine z_iconst (v := nI 0) X (by decide) dL_refused_479 ?_
                                                            refine z_runSW X Y wL_112 (tB_no hL (zxk (E := zIO) 0 (zR_in zin_m1) rfl) (fun _ _ h z1 => tL_does_22 hfl (zso_1 h.S) (-1) (nI 0) (nI 0) (nI 0) (nI 0) (tD_anew hfl h _ (zne_0 (j := 0) (zR_in zin_m1))))) rfl rfl (Nat.le_of_ble_eq_true rfl) ⟨by decide, by decide⟩ ⟨by decide, by decide⟩ dL_refused_480 ?_
                                                            rintro _ _ _ ⟨w, τ, rfl, rfl, rfl, hL⟩
                                                            rw [zcd_O]
                                                            refine z_ldc X qL_17 dL_refused_483 ?_
                                                            refine z_icmp_ne (tgt := 502) X dL_refused_485 (by decide) (fun c_485 => ?_) (fun c_485 => ?_)
                                                            · exact absurd rfl c_485
                                                            · skip
                                                              refine z_aload_n X dL_refused_488 rfl ?_
                                                              refine z_aload_n X dL_refused_489 rfl ?_
                                                              refine z_runSn X Y kL_127 (tL_all hL (Or.inl ⟨rfl, rfl⟩) hd3 hd0) rfl rfl (Nat.le_of_ble_eq_true rfl) ⟨by decide, by decide⟩ ⟨by decide, by decide⟩ dL_refused_490 ?_
                                                              rintro _ _ _ ⟨w, τ, rfl, rfl, rfl, hL⟩
                                                              refine z_lload_n X dL_refused_493 rfl ?_
                                                              refine z_lcmp X dL_refused_494 ?_
                                                              refine z_if_ne (tgt := 502) X dL_refused_495 (by decide) (fun c_495 => ?_) (fun c_495 => ?_)
                                                              · exact absurd (zlcmp_0 _) c_495
                                                              · skip
                                                                refine z_iconst (v := nI 1) X (by decide) dL_refused_498 ?_
                                                                refine z_goto (tgt := 503) X dL_refused_499 (by decide) ?_
                                                                refine z_zret X (by decide) (by decide) rfl (by first | exact Or.inl rfl | exact Or.inr rfl | exact zb_01 _ | assumption) dL_refused_503 ?_
                                                                exact ⟨w, τ, rfl, rfl, rfl, hL⟩
