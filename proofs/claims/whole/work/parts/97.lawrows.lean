/-! the law: rows for its script, facts of its calls -/
section ZW
variable {p : Program} {l : Launch} {e : Env} {R : Room} {s : State} {m : MethodId} {args : Array Value} {below : List Frame} {meth : Method} {c : Code} {cells slots : Nat} {Q : State → Prop} {own nm : String} {cc : ByteArray} {nL : Nat} {ret : Option FieldType} {D : va_G} {cy : Nat → ClassId} {z0 pc : Nat} {L : List (Option Value)} {st : List Value} {g : zSh} {σ : zIn}
theorem z_sldN (X : z_cx p s m args meth c own cc nL ret nm D cy z0) {b Ls : Nat} {xs : Nat → Int32} (hXs : va_X b Ls xs s s.heap) (hbl : b < s.heap.size) (hbA : b < z0) {i : Nat} (hi : i < Ls) (hi2 : Ls < 2 ^ 31) (d : decode cc pc = .ok (.iaload, 1)) (kk : z_V p l e R s m args below meth c nL D cy z0 cells slots Q (pc + 1) (L) (.int (xs i) :: st) g σ) : z_V p l e R s m args below meth c nL D cy z0 cells slots Q (pc) (L) (.int (nI i) :: .ref b :: st) g σ := by
  intro H locs ls hP hD hS hL
  obtain ⟨hx, hb, hml, hown, hts, hN, hK, hz, hr, hnm, hlk⟩ := X
  refine va_sld hx hb hXs hbl (Nat.not_le.mpr hbA) hS (vp_in_nI hi hi2) d ?_
  rw [nI_clamp (by omega)]
  exact kk H locs ls hP hD hS hL
theorem z_slenN (X : z_cx p s m args meth c own cc nL ret nm D cy z0) {b Ls : Nat} {xs : Nat → Int32} (hXs : va_X b Ls xs s s.heap) (hbl : b < s.heap.size) (hbA : b < z0) (d : decode cc pc = .ok (.arraylength, 1)) (kk : z_V p l e R s m args below meth c nL D cy z0 cells slots Q (pc + 1) (L) (.int (nI Ls) :: st) g σ) : z_V p l e R s m args below meth c nL D cy z0 cells slots Q (pc) (L) (.ref b :: st) g σ := by
  intro H locs ls hP hD hS hL
  obtain ⟨hx, hb, hml, hown, hts, hN, hK, hz, hr, hnm, hlk⟩ := X
  exact va_slen hx hb hXs hbl (Nat.not_le.mpr hbA) hS d (kk H locs ls hP hD hS hL)
/-- x != 0, as a number -/
theorem z_nz (X : z_cx p s m args meth c own cc nL ret nm D cy z0) {x : Int32} (d0 : decode cc pc = .ok (.ifCond .eq 7, 3)) (d3 : decode cc (pc + 3) = .ok (.iconst 1, 1)) (d4 : decode cc (pc + 3 + 1) = .ok (.goto 4, 3)) (d7 : decode cc (pc + 7) = .ok (.iconst 0, 1)) (kk : z_V p l e R s m args below meth c nL D cy z0 cells slots Q (pc + 8) (L) (.int (zb (decide (x ≠ 0))) :: st) g σ) : z_V p l e R s m args below meth c nL D cy z0 cells slots Q (pc) (L) (.int x :: st) g σ := by
  refine z_if_eq (tgt := pc + 7) X d0 (by omega) (fun h => ?_) (fun h => ?_)
  · refine z_iconst (v := 0) X (by decide) d7 ?_
    rw [decide_eq_false (fun q => q h)] at kk
    exact kk
  · refine z_iconst (v := 1) X (by decide) d3 ?_
    refine z_goto (tgt := pc + 8) X d4 (by omega) ?_
    rw [decide_eq_true h] at kk
    exact kk
theorem z_lald0 (X : z_cx p s m args meth c own cc nL ret nm D cy z0) {i a : Nat} (ha : z_ar g i 2 1) (he : g.2.1 i = a) (d : decode cc pc = .ok (.laload, 1)) (kk : z_V p l e R s m args below meth c nL D cy z0 cells slots Q (pc + 1) (L) (.long (σ i 0).toInt64 :: st) g σ) : z_V p l e R s m args below meth c nL D cy z0 cells slots Q (pc) (L) (.int (nI 0) :: .ref a :: st) g σ := by
  subst he
  exact z_lald X ha (vp_in_nI (by decide) (by decide)) d kk
theorem z_fgt7 {o0 o1 o2 o3 o4 o5 o6 : Option Value} (kk : z_V p l e R s m args below meth c nL D cy z0 cells slots Q pc [o0, o1, o2, o3, o4, none, none] st g σ) : z_V p l e R s m args below meth c nL D cy z0 cells slots Q pc [o0, o1, o2, o3, o4, o5, o6] st g σ := by
  intro H locs ls hP hD hS hL
  have sub : ∀ (i : Nat) (v : Value), [o0, o1, o2, o3, o4, (none : Option Value), none][i]? = some (some v) → [o0, o1, o2, o3, o4, o5, o6][i]? = some (some v) := by
    intro i v h
    match i, h with
    | 0, h => exact h
    | 1, h => exact h
    | 2, h => exact h
    | 3, h => exact h
    | 4, h => exact h
    | 5, h => cases h
    | 6, h => cases h
    | i + 7, h => simp at h
  exact kk H locs ls hP hD hS ⟨hL.1, fun i v h => hL.2.1 i v (sub i v h), fun i v h => hL.2.2 i v (sub i v h)⟩
end ZW
theorem lg_self (x : Int64) : lg_cmp x x = 0 := by
  unfold lg_cmp
  rw [if_neg (by simp), if_pos rfl]
theorem kL_102 : z_cV RL 102 MX9_idea 1 9 := ⟨⟨Or.inl (z_gd 1166 (by decide +kernel) (by decide +kernel)), z_gd 1169 (by decide +kernel) (by decide +kernel), z_gd 63 (by decide +kernel) (by decide +kernel), ⟨by decide, by decide⟩, by decide +kernel⟩, z_gd 1167 (by decide +kernel) (by decide +kernel), z_gd 1168 (by decide +kernel) (by decide +kernel), by decide, rfl⟩
theorem kL_109 : z_cV RL 109 MX9_entry 5 9 := ⟨⟨Or.inl (z_gd 1181 (by decide +kernel) (by decide +kernel)), z_gd 1184 (by decide +kernel) (by decide +kernel), z_gd 63 (by decide +kernel) (by decide +kernel), ⟨by decide, by decide⟩, by decide +kernel⟩, z_gd 1182 (by decide +kernel) (by decide +kernel), z_gd 1183 (by decide +kernel) (by decide +kernel), by decide, rfl⟩
theorem kL_112 : z_cV RL 112 MX9_candidates 1 9 := ⟨⟨Or.inl (z_gd 1203 (by decide +kernel) (by decide +kernel)), z_gd 1206 (by decide +kernel) (by decide +kernel), z_gd 63 (by decide +kernel) (by decide +kernel), ⟨by decide, by decide⟩, by decide +kernel⟩, z_gd 1204 (by decide +kernel) (by decide +kernel), z_gd 1205 (by decide +kernel) (by decide +kernel), by decide, rfl⟩
theorem kL_116 : z_cV RL 116 MX9_candidate 2 9 := ⟨⟨Or.inl (z_gd 1222 (by decide +kernel) (by decide +kernel)), z_gd 1225 (by decide +kernel) (by decide +kernel), z_gd 63 (by decide +kernel) (by decide +kernel), ⟨by decide, by decide⟩, by decide +kernel⟩, z_gd 1223 (by decide +kernel) (by decide +kernel), z_gd 1224 (by decide +kernel) (by decide +kernel), by decide, rfl⟩
theorem kL_120 : z_cV RL 120 MX9_office 0 9 := ⟨⟨Or.inl (z_gd 1226 (by decide +kernel) (by decide +kernel)), z_gd 1229 (by decide +kernel) (by decide +kernel), z_gd 63 (by decide +kernel) (by decide +kernel), ⟨by decide, by decide⟩, by decide +kernel⟩, z_gd 1227 (by decide +kernel) (by decide +kernel), z_gd 1228 (by decide +kernel) (by decide +kernel), by decide, rfl⟩
theorem kL_124 : z_cV RL 124 MX9_cable 4 9 := ⟨⟨Or.inl (z_gd 1230 (by decide +kernel) (by decide +kernel)), z_gd 1233 (by decide +kernel) (by decide +kernel), z_gd 63 (by decide +kernel) (by decide +kernel), ⟨by decide, by decide⟩, by decide +kernel⟩, z_gd 1231 (by decide +kernel) (by decide +kernel), z_gd 1232 (by decide +kernel) (by decide +kernel), by decide, rfl⟩
theorem kL_128 : z_cV RL 128 MX9_broken 2 9 := ⟨⟨Or.inl (z_gd 1238 (by decide +kernel) (by decide +kernel)), z_gd 1241 (by decide +kernel) (by decide +kernel), z_gd 63 (by decide +kernel) (by decide +kernel), ⟨by decide, by decide⟩, by decide +kernel⟩, z_gd 1239 (by decide +kernel) (by decide +kernel), z_gd 1240 (by decide +kernel) (by decide +kernel), by decide, rfl⟩
theorem kL_131 : z_cV RL 131 MX9_forbid 2 9 := ⟨⟨Or.inl (z_gd 1250 (by decide +kernel) (by decide +kernel)), z_gd 1253 (by decide +kernel) (by decide +kernel), z_gd 63 (by decide +kernel) (by decide +kernel), ⟨by decide, by decide⟩, by decide +kernel⟩, z_gd 1251 (by decide +kernel) (by decide +kernel), z_gd 1252 (by decide +kernel) (by decide +kernel), by decide, rfl⟩
theorem kL_134 : z_cV RL 134 MX9_key 2 9 := ⟨⟨Or.inl (z_gd 1254 (by decide +kernel) (by decide +kernel)), z_gd 1257 (by decide +kernel) (by decide +kernel), z_gd 63 (by decide +kernel) (by decide +kernel), ⟨by decide, by decide⟩, by decide +kernel⟩, z_gd 1255 (by decide +kernel) (by decide +kernel), z_gd 1256 (by decide +kernel) (by decide +kernel), by decide, rfl⟩
theorem kL_137 : z_cV RL 137 MX9_conference 4 9 := ⟨⟨Or.inl (z_gd 1258 (by decide +kernel) (by decide +kernel)), z_gd 1261 (by decide +kernel) (by decide +kernel), z_gd 63 (by decide +kernel) (by decide +kernel), ⟨by decide, by decide⟩, by decide +kernel⟩, z_gd 1259 (by decide +kernel) (by decide +kernel), z_gd 1260 (by decide +kernel) (by decide +kernel), by decide, rfl⟩
theorem kL_140 : z_cV RL 140 MX9_reserve 2 9 := ⟨⟨Or.inl (z_gd 1262 (by decide +kernel) (by decide +kernel)), z_gd 1265 (by decide +kernel) (by decide +kernel), z_gd 63 (by decide +kernel) (by decide +kernel), ⟨by decide, by decide⟩, by decide +kernel⟩, z_gd 1263 (by decide +kernel) (by decide +kernel), z_gd 1264 (by decide +kernel) (by decide +kernel), by decide, rfl⟩
theorem kL_143 : z_cV RL 143 MX9_draft 1 9 := ⟨⟨Or.inl (z_gd 1270 (by decide +kernel) (by decide +kernel)), z_gd 1273 (by decide +kernel) (by decide +kernel), z_gd 63 (by decide +kernel) (by decide +kernel), ⟨by decide, by decide⟩, by decide +kernel⟩, z_gd 1271 (by decide +kernel) (by decide +kernel), z_gd 1272 (by decide +kernel) (by decide +kernel), by decide, rfl⟩
theorem kL_146 : z_cV RL 146 MX9_words 2 9 := ⟨⟨Or.inl (z_gd 1274 (by decide +kernel) (by decide +kernel)), z_gd 1277 (by decide +kernel) (by decide +kernel), z_gd 63 (by decide +kernel) (by decide +kernel), ⟨by decide, by decide⟩, by decide +kernel⟩, z_gd 1275 (by decide +kernel) (by decide +kernel), z_gd 1276 (by decide +kernel) (by decide +kernel), by decide, rfl⟩
theorem kL_150 : z_cV RL 150 MX9_send 4 9 := ⟨⟨Or.inl (z_gd 1313 (by decide +kernel) (by decide +kernel)), z_gd 1316 (by decide +kernel) (by decide +kernel), z_gd 63 (by decide +kernel) (by decide +kernel), ⟨by decide, by decide⟩, by decide +kernel⟩, z_gd 1314 (by decide +kernel) (by decide +kernel), z_gd 1315 (by decide +kernel) (by decide +kernel), by decide, rfl⟩
theorem kL_153 : z_cV RL 153 MX9_wrong 4 9 := ⟨⟨Or.inl (z_gd 1333 (by decide +kernel) (by decide +kernel)), z_gd 1336 (by decide +kernel) (by decide +kernel), z_gd 63 (by decide +kernel) (by decide +kernel), ⟨by decide, by decide⟩, by decide +kernel⟩, z_gd 1334 (by decide +kernel) (by decide +kernel), z_gd 1335 (by decide +kernel) (by decide +kernel), by decide, rfl⟩
theorem kL_156 : z_cV RL 156 MX9_pass 1 9 := ⟨⟨Or.inl (z_gd 1345 (by decide +kernel) (by decide +kernel)), z_gd 1348 (by decide +kernel) (by decide +kernel), z_gd 63 (by decide +kernel) (by decide +kernel), ⟨by decide, by decide⟩, by decide +kernel⟩, z_gd 1346 (by decide +kernel) (by decide +kernel), z_gd 1347 (by decide +kernel) (by decide +kernel), by decide, rfl⟩
theorem kL_159 : z_cV RL 159 MX9_rest 1 9 := ⟨⟨Or.inl (z_gd 1361 (by decide +kernel) (by decide +kernel)), z_gd 1364 (by decide +kernel) (by decide +kernel), z_gd 63 (by decide +kernel) (by decide +kernel), ⟨by decide, by decide⟩, by decide +kernel⟩, z_gd 1362 (by decide +kernel) (by decide +kernel), z_gd 1363 (by decide +kernel) (by decide +kernel), by decide, rfl⟩
theorem kL_162 : z_cV RL 162 MX9_ofMessage 2 9 := ⟨⟨Or.inl (z_gd 1365 (by decide +kernel) (by decide +kernel)), z_gd 1368 (by decide +kernel) (by decide +kernel), z_gd 63 (by decide +kernel) (by decide +kernel), ⟨by decide, by decide⟩, by decide +kernel⟩, z_gd 1366 (by decide +kernel) (by decide +kernel), z_gd 1367 (by decide +kernel) (by decide +kernel), by decide, rfl⟩
theorem kL_166 : z_cV RL 166 MX9_word 3 9 := ⟨⟨Or.inl (z_gd 1369 (by decide +kernel) (by decide +kernel)), z_gd 1372 (by decide +kernel) (by decide +kernel), z_gd 63 (by decide +kernel) (by decide +kernel), ⟨by decide, by decide⟩, by decide +kernel⟩, z_gd 1370 (by decide +kernel) (by decide +kernel), z_gd 1371 (by decide +kernel) (by decide +kernel), by decide, rfl⟩
theorem kL_169 : z_cV RL 169 MX9_read 2 9 := ⟨⟨Or.inl (z_gd 1373 (by decide +kernel) (by decide +kernel)), z_gd 1376 (by decide +kernel) (by decide +kernel), z_gd 63 (by decide +kernel) (by decide +kernel), ⟨by decide, by decide⟩, by decide +kernel⟩, z_gd 1374 (by decide +kernel) (by decide +kernel), z_gd 1375 (by decide +kernel) (by decide +kernel), by decide, rfl⟩
theorem kL_172 : z_cV RL 172 MX9_claim 1 9 := ⟨⟨Or.inl (z_gd 1381 (by decide +kernel) (by decide +kernel)), z_gd 1384 (by decide +kernel) (by decide +kernel), z_gd 63 (by decide +kernel) (by decide +kernel), ⟨by decide, by decide⟩, by decide +kernel⟩, z_gd 1382 (by decide +kernel) (by decide +kernel), z_gd 1383 (by decide +kernel) (by decide +kernel), by decide, rfl⟩
theorem kL_175 : z_cV RL 175 MX9_account 1 9 := ⟨⟨Or.inl (z_gd 1385 (by decide +kernel) (by decide +kernel)), z_gd 1388 (by decide +kernel) (by decide +kernel), z_gd 63 (by decide +kernel) (by decide +kernel), ⟨by decide, by decide⟩, by decide +kernel⟩, z_gd 1386 (by decide +kernel) (by decide +kernel), z_gd 1387 (by decide +kernel) (by decide +kernel), by decide, rfl⟩
theorem kL_178 : z_cV RL 178 MX9_accountAnew 1 9 := ⟨⟨Or.inl (z_gd 1389 (by decide +kernel) (by decide +kernel)), z_gd 1392 (by decide +kernel) (by decide +kernel), z_gd 63 (by decide +kernel) (by decide +kernel), ⟨by decide, by decide⟩, by decide +kernel⟩, z_gd 1390 (by decide +kernel) (by decide +kernel), z_gd 1391 (by decide +kernel) (by decide +kernel), by decide, rfl⟩
theorem kL_103 : z_cV RL 103 MX9_thrown 0 9 := ⟨⟨Or.inl (z_gd 1162 (by decide +kernel) (by decide +kernel)), z_gd 1165 (by decide +kernel) (by decide +kernel), z_gd 63 (by decide +kernel) (by decide +kernel), ⟨by decide, by decide⟩, by decide +kernel⟩, z_gd 1163 (by decide +kernel) (by decide +kernel), z_gd 1164 (by decide +kernel) (by decide +kernel), by decide, rfl⟩
theorem kL_93 : z_cI RL 93 MX8_init 0 := ⟨⟨Or.inl (z_gd 78 (by decide +kernel) (by decide +kernel)), z_gd 80 (by decide +kernel) (by decide +kernel), z_gd 57 (by decide +kernel) (by decide +kernel), ⟨by decide, by decide⟩, by decide +kernel⟩, rfl, z_gd 79 (by decide +kernel) (by decide +kernel), rfl⟩
theorem kL_96 : z_cI RL 96 MX9_init 0 := ⟨⟨Or.inl (z_gd 1010 (by decide +kernel) (by decide +kernel)), z_gd 1012 (by decide +kernel) (by decide +kernel), z_gd 63 (by decide +kernel) (by decide +kernel), ⟨by decide, by decide⟩, by decide +kernel⟩, rfl, z_gd 1011 (by decide +kernel) (by decide +kernel), rfl⟩
theorem nwL_8 : z_na RL 8 8 := ⟨RX8, TX8, 10, tyX8, rfl, by decide, rfl, iX8, tyX8_ok, by decide +kernel, z_gd 76 (by decide +kernel) (by decide +kernel), z_gd 77 (by decide +kernel) (by decide +kernel), z_gd 57 (by decide +kernel) (by decide +kernel)⟩
theorem nwL_94 : z_na RL 94 9 := ⟨RX9, TX9, 49, tyX9, rfl, by decide, rfl, iX9, tyX9_ok, by decide +kernel, z_gd 1008 (by decide +kernel) (by decide +kernel), z_gd 1009 (by decide +kernel) (by decide +kernel), z_gd 63 (by decide +kernel) (by decide +kernel)⟩
def zPm2 (g1 : zSh) (k : Nat) : Option Value → zSh → zIn → Prop := fun w g2 σ2 => g2 = g1 ∧ ∃ r, w = some (.int r) ∧ σ2 21 48 = nI k ∧ zInv g2 σ2 ∧ (k = 0 → σ2 59 0 = r ∧ (r = 0 ∨ r = 1))
def zPw2 (l : Launch) (D : va_G) (cy : Nat → ClassId) (z0 : Nat) (MM : zM) (As : List Value) (g : zSh) : Option Value → zSh → zIn → Prop := fun v g1 σ1 => zSm g g1 ∧ zS g1 ∧ ∃ k, k ≤ 3 ∧ v = some (.int (nI k)) ∧ z_Ct l D cy z0 MM (.ref (g1.2.1 21) :: As) g1 σ1 (zPm2 g1 k)
set_option maxHeartbeats 4000000 in
theorem zPr_forbid2 {l : Launch} {D : va_G} {cy : Nat → ClassId} {z0 : Nat} {g : zSh} {σ : zIn} (hfl : l.stackTraces = false) (H : zInv g σ) (x y : Int32) (hy : y = 0 ∨ y = 1) : z_Cw l D cy z0 NL_forbid hL_forbid [.ref (g.2.1 1), .int x, .int y, .ref (g.2.1 59)] g σ (zPw2 l D cy z0 MX9_forbid [.int x, .int y] g) := by
  have HI := H
  obtain ⟨ni, ne, nd, no, nc, nu, nm, mi, H⟩ := H
  obtain ⟨⟨hS, hw, hO, hK, hU, hG, hF⟩, hA, hB, hC, hE, hGw, hGq, hGF, h56⟩ := id H
  have fr := zSP_fr H.1
  have h01 : ∀ o, o < no → σ (100 + o) 2 = 0 ∨ σ (100 + o) 2 = 1 := fun o ho => by rw [(hB.2.1 o ho).2.1]; exact (hB.2.1 o ho).2.2.2.1
  have h25 : ∀ o, o < no → σ 25 o = 0 ∨ σ 25 o = 1 := fun o ho => (hB.2.1 o ho).2.2.2.1
  refine (tL_forbid x y hS (tX8_forbid hfl x y hS hO hB.1.1 hy h01) (fun v g' σ' h => ?_) (fun E g' σ' h => zXk_in h.1)).mono ?_
  · obtain ⟨_, rfl, o, h1, _, _, rfl⟩ := h
    exact ⟨zsa_59 hS, rfl, _, rfl, h01 o h1⟩
  rintro v g' σ' (⟨r, σ1, ⟨hz, hg, o, o1, o2, hs, hv⟩, rfl, rfl⟩ | ⟨j, E, hj, ⟨hk, hg, hs⟩, rfl⟩)
  · subst hg
    have er : r = σ (100 + o) 2 := by cases hv; rfl
    have hn8 := hB.1.2.2.1
    have e : ∀ i, i ≠ 100 + o → i ≠ 59 → z_up σ1 59 0 r i = σ i := fun i q1 q2 => by rw [z_up_ne q2, hs, z_up_ne q1]
    refine ⟨zSm_rf, hS, 0, by decide, rfl, (tX9_forbid (no := no) x y hS ?_ hn8 ?_ hy).mono (fun w g2 σ2 h => ?_)⟩
    · rw [e 21 (by omega) (by omega)]; exact hB.1.2.1
    · rw [e 25 (by omega) (by omega)]; exact h25
    · obtain ⟨rfl, r2, rfl, h⟩ := h
      rcases h with h | ⟨_, h⟩
      · exact absurd hz h.1
      obtain ⟨o', d1, d2, d3, rfl⟩ := h
      have ec : o' = o := (nI_eq (by omega) (by omega)).mp (d2.symm.trans o2)
      subst ec
      refine ⟨rfl, r2, rfl, ?_, ?_, fun _ => ⟨?_, ?_⟩⟩
      · rw [z_up_ne (by omega), z_up_app, if_pos rfl, if_pos rfl]; rfl
      · rw [hs]; exact zInv_of (zst_forbid H d1 hy)
      · rw [z_up_ne (by omega), z_up_ne (by omega), z_up_app, if_pos rfl, if_pos rfl, er, d3, e 25 (by omega) (by omega)]
        exact (hB.2.1 o' o1).2.1
      · rw [d3, e 25 (by omega) (by omega)]; exact h25 o' d1
  · subst hg; subst hs
    exact ⟨zSm_rf, hS, j + 1, zXk_3 hj (by decide), rfl, (zPm_bad (tX9_forbid (no := no) x y hS hB.1.2.1 hB.1.2.2.1 h25 hy) (zXk_j hk hj (by decide)) HI).mono (fun w g2 σ2 h => by obtain ⟨a, r, b, c, d, _⟩ := h; exact ⟨a, r, b, c, d, fun q => by omega⟩)⟩
