/-! the law: a case of its switch each -/
set_option maxHeartbeats 4000000 in
set_option maxRecDepth 100000 in
theorem zcs_idea {p : Program} {l : Launch} {e : Env} {s : State} {m : MethodId} {args : Array Value} {below : List Frame} {meth : Method} {c : Code} {cells slots : Nat} {Q : State → Prop} {nm : String} {D : va_G} {cy : Nat → ClassId} {z0 b Ls q a1 a2 a3 : Nat} {xs : Nat → Int32} {g : zSh} {σ : zIn} (hfl : l.stackTraces = false) (X : z_cx p s m args meth c RL cL_law 7 ret nm D cy z0) (Y : zTh z0 s) (hXs : va_X b Ls xs s s.heap) (hbl : b < s.heap.size) (hbA : b < z0) (hq : 6 * q + 6 ≤ Ls) (hLs : Ls ≤ 3072) (hce : cells + 5 ≤ room_1.cells) (hsl : slots + 75 ≤ room_1.slots) (H : zInv g σ) (hx : g.2.1 1 = a1) (hm : g.2.1 21 = a2) (ho : g.2.1 59 = a3) (K : ∀ g1 σ1, zInv g1 σ1 → g1.2.1 1 = a1 → g1.2.1 21 = a2 → g1.2.1 59 = a3 → z_V p l e room_1 s m args below meth c 7 D cy z0 (cells + 5) (slots + 75) Q 1823 [some (.ref b), some (.ref a1), some (.ref a2), some (.ref a3), some (.int (nI (6 * q))), none, none] [] g1 σ1) : z_V p l e room_1 s m args below meth c 7 D cy z0 cells slots Q 148 [some (.ref b), some (.ref a1), some (.ref a2), some (.ref a3), some (.int (nI (6 * q))), none, none] [] g σ := by
  have h := zPr_idea (D := D) (cy := cy) (z0 := z0) hfl H (xs (6 * q + 1))
  rw [hx, ho] at h
  refine z_aload_n X dL_law_148 rfl ?_
  refine z_aload_n X dL_law_149 rfl ?_
  refine z_iload X dL_law_150 rfl ?_
  refine z_iconst (v := nI 1) X (by decide) dL_law_152 ?_
  refine z_iaddN X dL_law_153 ?_
  refine z_sldN X hXs hbl hbA (by omega) (by omega) dL_law_154 ?_
  refine z_aload_n X dL_law_155 rfl ?_
  refine z_runSW X Y wL_97 h rfl rfl (Nat.le_of_ble_eq_true rfl) ⟨by decide, by decide⟩ ⟨by show cells + 1 ≤ _; omega, by show slots + 6 ≤ _; omega⟩ dL_law_156 ?_
  rintro v g1 s1 ⟨⟨m1, m2, m3⟩, hS1, k, hk3, rfl, hM⟩
  replace m1 := m1.trans hx
  replace m2 := m2.trans hm
  replace m3 := m3.trans ho
  refine z_istore X dL_law_159 (by decide) ?_
  refine z_aload_n X dL_law_161 rfl ?_
  refine z_aload_n X dL_law_162 rfl ?_
  refine z_iload X dL_law_163 rfl ?_
  refine z_iconst (v := nI 1) X (by decide) dL_law_165 ?_
  refine z_iaddN X dL_law_166 ?_
  refine z_sldN X hXs hbl hbA (by omega) (by omega) dL_law_167 ?_
  refine z_runV X kL_102 hM (zso_21 hS1) rfl (by rw [m2]; rfl) (Nat.le_of_ble_eq_true rfl) ⟨by decide, by decide⟩ ⟨by show cells + 1 + 0 ≤ _; omega, by show slots + 6 + 0 ≤ _; omega⟩ dL_law_168 ?_
  rintro w g2 s2 ⟨hg2, r, rfl, h48, hI2, hr⟩
  subst hg2
  refine z_istore X dL_law_171 (by decide) ?_
  refine z_aload_n X dL_law_173 rfl ?_
  refine z_runV X kL_103 (tX9_thrown hS1) (zso_21 hS1) rfl (by rw [m2]; rfl) (Nat.le_of_ble_eq_true rfl) ⟨by decide, by decide⟩ ⟨by show cells + 1 + 0 + 0 ≤ _; omega, by show slots + 6 + 0 + 0 ≤ _; omega⟩ dL_law_174 ?_
  rintro v3 g3 s3 ⟨rfl, hg3, hs3⟩
  subst hg3; subst hs3
  refine z_iload X dL_law_177 rfl ?_
  refine z_icmp_eq (tgt := 184) X dL_law_179 (by decide) (fun c0 => ?_) (fun c0 => absurd h48 c0)
  refine z_iload X dL_law_184 rfl ?_
  refine z_if_ne (tgt := 201) X dL_law_186 (by decide) (fun c1 => ?_) (fun c1 => ?_)
  · skip
    refine z_goto (tgt := 1823) X dL_law_201 (by decide) ?_
    exact z_widen (by show cells + 1 + 0 + 0 ≤ _; omega) (by show slots + 6 + 0 + 0 ≤ _; omega) (z_fgt7 (K _ _ hI2 m1 m2 m3))
  · have k0 : k = 0 := (nI_eq (by omega) (by decide)).mp c1
    refine z_aload_n X dL_law_189 rfl ?_
    refine z_iconst (v := nI 0) X (by decide) dL_law_190 ?_
    refine z_lald0 X (zsa_59 hS1) m3 dL_law_191 ?_
    refine z_iload X dL_law_192 rfl ?_
    refine z_i2l X dL_law_194 ?_
    refine z_lcmp X dL_law_195 ?_
    refine z_if_eq (tgt := 201) X dL_law_196 (by decide) (fun c2 => ?_) (fun c2 => absurd (by rw [hr k0]; exact lg_self _) c2)
    refine z_goto (tgt := 1823) X dL_law_201 (by decide) ?_
    exact z_widen (by show cells + 1 + 0 + 0 ≤ _; omega) (by show slots + 6 + 0 + 0 ≤ _; omega) (z_fgt7 (K _ _ hI2 m1 m2 m3))
set_option maxHeartbeats 4000000 in
set_option maxRecDepth 100000 in
theorem zcs_entry {p : Program} {l : Launch} {e : Env} {s : State} {m : MethodId} {args : Array Value} {below : List Frame} {meth : Method} {c : Code} {cells slots : Nat} {Q : State → Prop} {nm : String} {D : va_G} {cy : Nat → ClassId} {z0 b Ls q a1 a2 a3 : Nat} {xs : Nat → Int32} {g : zSh} {σ : zIn} (hfl : l.stackTraces = false) (X : z_cx p s m args meth c RL cL_law 7 ret nm D cy z0) (Y : zTh z0 s) (hXs : va_X b Ls xs s s.heap) (hbl : b < s.heap.size) (hbA : b < z0) (hq : 6 * q + 6 ≤ Ls) (hLs : Ls ≤ 3072) (hce : cells + 5 ≤ room_1.cells) (hsl : slots + 75 ≤ room_1.slots) (H : zInv g σ) (hx : g.2.1 1 = a1) (hm : g.2.1 21 = a2) (ho : g.2.1 59 = a3) (K : ∀ g1 σ1, zInv g1 σ1 → g1.2.1 1 = a1 → g1.2.1 21 = a2 → g1.2.1 59 = a3 → z_V p l e room_1 s m args below meth c 7 D cy z0 (cells + 5) (slots + 75) Q 1823 [some (.ref b), some (.ref a1), some (.ref a2), some (.ref a3), some (.int (nI (6 * q))), none, none] [] g1 σ1) : z_V p l e room_1 s m args below meth c 7 D cy z0 cells slots Q 204 [some (.ref b), some (.ref a1), some (.ref a2), some (.ref a3), some (.int (nI (6 * q))), none, none] [] g σ := by
  have h := zPr_entry (D := D) (cy := cy) (z0 := z0) hfl H (xs (6 * q + 1)) (xs (6 * q + 2)) (xs (6 * q + 3)) (xs (6 * q + 4)) (xs (6 * q + 5))
  rw [hx, ho] at h
  refine z_aload_n X dL_law_204 rfl ?_
  refine z_aload_n X dL_law_205 rfl ?_
  refine z_iload X dL_law_206 rfl ?_
  refine z_iconst (v := nI 1) X (by decide) dL_law_208 ?_
  refine z_iaddN X dL_law_209 ?_
  refine z_sldN X hXs hbl hbA (by omega) (by omega) dL_law_210 ?_
  refine z_aload_n X dL_law_211 rfl ?_
  refine z_iload X dL_law_212 rfl ?_
  refine z_iconst (v := nI 2) X (by decide) dL_law_214 ?_
  refine z_iaddN X dL_law_215 ?_
  refine z_sldN X hXs hbl hbA (by omega) (by omega) dL_law_216 ?_
  refine z_aload_n X dL_law_217 rfl ?_
  refine z_iload X dL_law_218 rfl ?_
  refine z_iconst (v := nI 3) X (by decide) dL_law_220 ?_
  refine z_iaddN X dL_law_221 ?_
  refine z_sldN X hXs hbl hbA (by omega) (by omega) dL_law_222 ?_
  refine z_aload_n X dL_law_223 rfl ?_
  refine z_iload X dL_law_224 rfl ?_
  refine z_iconst (v := nI 4) X (by decide) dL_law_226 ?_
  refine z_iaddN X dL_law_227 ?_
  refine z_sldN X hXs hbl hbA (by omega) (by omega) dL_law_228 ?_
  refine z_aload_n X dL_law_229 rfl ?_
  refine z_iload X dL_law_230 rfl ?_
  refine z_iconst (v := nI 5) X (by decide) dL_law_232 ?_
  refine z_iaddN X dL_law_233 ?_
  refine z_sldN X hXs hbl hbA (by omega) (by omega) dL_law_234 ?_
  refine z_aload_n X dL_law_235 rfl ?_
  refine z_runSW X Y wL_106 h rfl rfl (Nat.le_of_ble_eq_true rfl) ⟨by decide, by decide⟩ ⟨by show cells + 1 ≤ _; omega, by show slots + 6 ≤ _; omega⟩ dL_law_236 ?_
  rintro v g1 s1 ⟨⟨m1, m2, m3⟩, hS1, k, hk3, rfl, hM⟩
  replace m1 := m1.trans hx
  replace m2 := m2.trans hm
  replace m3 := m3.trans ho
  refine z_istore X dL_law_239 (by decide) ?_
  refine z_aload_n X dL_law_241 rfl ?_
  refine z_aload_n X dL_law_242 rfl ?_
  refine z_iload X dL_law_243 rfl ?_
  refine z_iconst (v := nI 1) X (by decide) dL_law_245 ?_
  refine z_iaddN X dL_law_246 ?_
  refine z_sldN X hXs hbl hbA (by omega) (by omega) dL_law_247 ?_
  refine z_aload_n X dL_law_248 rfl ?_
  refine z_iload X dL_law_249 rfl ?_
  refine z_iconst (v := nI 2) X (by decide) dL_law_251 ?_
  refine z_iaddN X dL_law_252 ?_
  refine z_sldN X hXs hbl hbA (by omega) (by omega) dL_law_253 ?_
  refine z_aload_n X dL_law_254 rfl ?_
  refine z_iload X dL_law_255 rfl ?_
  refine z_iconst (v := nI 3) X (by decide) dL_law_257 ?_
  refine z_iaddN X dL_law_258 ?_
  refine z_sldN X hXs hbl hbA (by omega) (by omega) dL_law_259 ?_
  refine z_aload_n X dL_law_260 rfl ?_
  refine z_iload X dL_law_261 rfl ?_
  refine z_iconst (v := nI 4) X (by decide) dL_law_263 ?_
  refine z_iaddN X dL_law_264 ?_
  refine z_sldN X hXs hbl hbA (by omega) (by omega) dL_law_265 ?_
  refine z_aload_n X dL_law_266 rfl ?_
  refine z_iload X dL_law_267 rfl ?_
  refine z_iconst (v := nI 5) X (by decide) dL_law_269 ?_
  refine z_iaddN X dL_law_270 ?_
  refine z_sldN X hXs hbl hbA (by omega) (by omega) dL_law_271 ?_
  refine z_runV X kL_109 hM (zso_21 hS1) rfl (by rw [m2]; rfl) (Nat.le_of_ble_eq_true rfl) ⟨by decide, by decide⟩ ⟨by show cells + 1 + 0 ≤ _; omega, by show slots + 6 + 0 ≤ _; omega⟩ dL_law_272 ?_
  rintro w g2 s2 ⟨hg2, r, rfl, h48, hI2, hr⟩
  subst hg2
  refine z_istore X dL_law_275 (by decide) ?_
  refine z_aload_n X dL_law_277 rfl ?_
  refine z_runV X kL_103 (tX9_thrown hS1) (zso_21 hS1) rfl (by rw [m2]; rfl) (Nat.le_of_ble_eq_true rfl) ⟨by decide, by decide⟩ ⟨by show cells + 1 + 0 + 0 ≤ _; omega, by show slots + 6 + 0 + 0 ≤ _; omega⟩ dL_law_278 ?_
  rintro v3 g3 s3 ⟨rfl, hg3, hs3⟩
  subst hg3; subst hs3
  refine z_iload X dL_law_281 rfl ?_
  refine z_icmp_eq (tgt := 288) X dL_law_283 (by decide) (fun c0 => ?_) (fun c0 => absurd h48 c0)
  refine z_iload X dL_law_288 rfl ?_
  refine z_if_ne (tgt := 305) X dL_law_290 (by decide) (fun c1 => ?_) (fun c1 => ?_)
  · skip
    refine z_goto (tgt := 1823) X dL_law_305 (by decide) ?_
    exact z_widen (by show cells + 1 + 0 + 0 ≤ _; omega) (by show slots + 6 + 0 + 0 ≤ _; omega) (z_fgt7 (K _ _ hI2 m1 m2 m3))
  · have k0 : k = 0 := (nI_eq (by omega) (by decide)).mp c1
    refine z_aload_n X dL_law_293 rfl ?_
    refine z_iconst (v := nI 0) X (by decide) dL_law_294 ?_
    refine z_lald0 X (zsa_59 hS1) m3 dL_law_295 ?_
    refine z_iload X dL_law_296 rfl ?_
    refine z_i2l X dL_law_298 ?_
    refine z_lcmp X dL_law_299 ?_
    refine z_if_eq (tgt := 305) X dL_law_300 (by decide) (fun c2 => ?_) (fun c2 => absurd (by rw [hr k0]; exact lg_self _) c2)
    refine z_goto (tgt := 1823) X dL_law_305 (by decide) ?_
    exact z_widen (by show cells + 1 + 0 + 0 ≤ _; omega) (by show slots + 6 + 0 + 0 ≤ _; omega) (z_fgt7 (K _ _ hI2 m1 m2 m3))
set_option maxHeartbeats 4000000 in
set_option maxRecDepth 100000 in
theorem zcs_candidates {p : Program} {l : Launch} {e : Env} {s : State} {m : MethodId} {args : Array Value} {below : List Frame} {meth : Method} {c : Code} {cells slots : Nat} {Q : State → Prop} {nm : String} {D : va_G} {cy : Nat → ClassId} {z0 b Ls q a1 a2 a3 : Nat} {xs : Nat → Int32} {g : zSh} {σ : zIn} (hfl : l.stackTraces = false) (X : z_cx p s m args meth c RL cL_law 7 ret nm D cy z0) (Y : zTh z0 s) (hXs : va_X b Ls xs s s.heap) (hbl : b < s.heap.size) (hbA : b < z0) (hq : 6 * q + 6 ≤ Ls) (hLs : Ls ≤ 3072) (hce : cells + 5 ≤ room_1.cells) (hsl : slots + 75 ≤ room_1.slots) (H : zInv g σ) (hx : g.2.1 1 = a1) (hm : g.2.1 21 = a2) (ho : g.2.1 59 = a3) (K : ∀ g1 σ1, zInv g1 σ1 → g1.2.1 1 = a1 → g1.2.1 21 = a2 → g1.2.1 59 = a3 → z_V p l e room_1 s m args below meth c 7 D cy z0 (cells + 5) (slots + 75) Q 1823 [some (.ref b), some (.ref a1), some (.ref a2), some (.ref a3), some (.int (nI (6 * q))), none, none] [] g1 σ1) : z_V p l e room_1 s m args below meth c 7 D cy z0 cells slots Q 308 [some (.ref b), some (.ref a1), some (.ref a2), some (.ref a3), some (.int (nI (6 * q))), none, none] [] g σ := by
  have h := zPr_candidates (D := D) (cy := cy) (z0 := z0) hfl H (xs (6 * q + 1))
  rw [hx, ho] at h
  refine z_aload_n X dL_law_308 rfl ?_
  refine z_aload_n X dL_law_309 rfl ?_
  refine z_iload X dL_law_310 rfl ?_
  refine z_iconst (v := nI 1) X (by decide) dL_law_312 ?_
  refine z_iaddN X dL_law_313 ?_
  refine z_sldN X hXs hbl hbA (by omega) (by omega) dL_law_314 ?_
  refine z_aload_n X dL_law_315 rfl ?_
  refine z_runSW X Y wL_110 h rfl rfl (Nat.le_of_ble_eq_true rfl) ⟨by decide, by decide⟩ ⟨by show cells + 1 ≤ _; omega, by show slots + 6 ≤ _; omega⟩ dL_law_316 ?_
  rintro v g1 s1 ⟨⟨m1, m2, m3⟩, hS1, k, hk3, rfl, hM⟩
  replace m1 := m1.trans hx
  replace m2 := m2.trans hm
  replace m3 := m3.trans ho
  refine z_istore X dL_law_319 (by decide) ?_
  refine z_aload_n X dL_law_321 rfl ?_
  refine z_aload_n X dL_law_322 rfl ?_
  refine z_iload X dL_law_323 rfl ?_
  refine z_iconst (v := nI 1) X (by decide) dL_law_325 ?_
  refine z_iaddN X dL_law_326 ?_
  refine z_sldN X hXs hbl hbA (by omega) (by omega) dL_law_327 ?_
  refine z_runV X kL_112 hM (zso_21 hS1) rfl (by rw [m2]; rfl) (Nat.le_of_ble_eq_true rfl) ⟨by decide, by decide⟩ ⟨by show cells + 1 + 0 ≤ _; omega, by show slots + 6 + 0 ≤ _; omega⟩ dL_law_328 ?_
  rintro w g2 s2 ⟨hg2, r, rfl, h48, hI2, hr⟩
  subst hg2
  refine z_istore X dL_law_331 (by decide) ?_
  refine z_aload_n X dL_law_333 rfl ?_
  refine z_runV X kL_103 (tX9_thrown hS1) (zso_21 hS1) rfl (by rw [m2]; rfl) (Nat.le_of_ble_eq_true rfl) ⟨by decide, by decide⟩ ⟨by show cells + 1 + 0 + 0 ≤ _; omega, by show slots + 6 + 0 + 0 ≤ _; omega⟩ dL_law_334 ?_
  rintro v3 g3 s3 ⟨rfl, hg3, hs3⟩
  subst hg3; subst hs3
  refine z_iload X dL_law_337 rfl ?_
  refine z_icmp_eq (tgt := 344) X dL_law_339 (by decide) (fun c0 => ?_) (fun c0 => absurd h48 c0)
  refine z_iload X dL_law_344 rfl ?_
  refine z_if_ne (tgt := 361) X dL_law_346 (by decide) (fun c1 => ?_) (fun c1 => ?_)
  · skip
    refine z_goto (tgt := 1823) X dL_law_361 (by decide) ?_
    exact z_widen (by show cells + 1 + 0 + 0 ≤ _; omega) (by show slots + 6 + 0 + 0 ≤ _; omega) (z_fgt7 (K _ _ hI2 m1 m2 m3))
  · have k0 : k = 0 := (nI_eq (by omega) (by decide)).mp c1
    refine z_aload_n X dL_law_349 rfl ?_
    refine z_iconst (v := nI 0) X (by decide) dL_law_350 ?_
    refine z_lald0 X (zsa_59 hS1) m3 dL_law_351 ?_
    refine z_iload X dL_law_352 rfl ?_
    refine z_i2l X dL_law_354 ?_
    refine z_lcmp X dL_law_355 ?_
    refine z_if_eq (tgt := 361) X dL_law_356 (by decide) (fun c2 => ?_) (fun c2 => absurd (by rw [hr k0]; exact lg_self _) c2)
    refine z_goto (tgt := 1823) X dL_law_361 (by decide) ?_
    exact z_widen (by show cells + 1 + 0 + 0 ≤ _; omega) (by show slots + 6 + 0 + 0 ≤ _; omega) (z_fgt7 (K _ _ hI2 m1 m2 m3))
set_option maxHeartbeats 4000000 in
set_option maxRecDepth 100000 in
theorem zcs_candidate {p : Program} {l : Launch} {e : Env} {s : State} {m : MethodId} {args : Array Value} {below : List Frame} {meth : Method} {c : Code} {cells slots : Nat} {Q : State → Prop} {nm : String} {D : va_G} {cy : Nat → ClassId} {z0 b Ls q a1 a2 a3 : Nat} {xs : Nat → Int32} {g : zSh} {σ : zIn} (hfl : l.stackTraces = false) (X : z_cx p s m args meth c RL cL_law 7 ret nm D cy z0) (Y : zTh z0 s) (hXs : va_X b Ls xs s s.heap) (hbl : b < s.heap.size) (hbA : b < z0) (hq : 6 * q + 6 ≤ Ls) (hLs : Ls ≤ 3072) (hce : cells + 5 ≤ room_1.cells) (hsl : slots + 75 ≤ room_1.slots) (H : zInv g σ) (hx : g.2.1 1 = a1) (hm : g.2.1 21 = a2) (ho : g.2.1 59 = a3) (K : ∀ g1 σ1, zInv g1 σ1 → g1.2.1 1 = a1 → g1.2.1 21 = a2 → g1.2.1 59 = a3 → z_V p l e room_1 s m args below meth c 7 D cy z0 (cells + 5) (slots + 75) Q 1823 [some (.ref b), some (.ref a1), some (.ref a2), some (.ref a3), some (.int (nI (6 * q))), none, none] [] g1 σ1) : z_V p l e room_1 s m args below meth c 7 D cy z0 cells slots Q 364 [some (.ref b), some (.ref a1), some (.ref a2), some (.ref a3), some (.int (nI (6 * q))), none, none] [] g σ := by
  have h := zPr_candidate (D := D) (cy := cy) (z0 := z0) hfl H (xs (6 * q + 1)) (xs (6 * q + 2))
  rw [hx, ho] at h
  refine z_aload_n X dL_law_364 rfl ?_
  refine z_aload_n X dL_law_365 rfl ?_
  refine z_iload X dL_law_366 rfl ?_
  refine z_iconst (v := nI 1) X (by decide) dL_law_368 ?_
  refine z_iaddN X dL_law_369 ?_
  refine z_sldN X hXs hbl hbA (by omega) (by omega) dL_law_370 ?_
  refine z_aload_n X dL_law_371 rfl ?_
  refine z_iload X dL_law_372 rfl ?_
  refine z_iconst (v := nI 2) X (by decide) dL_law_374 ?_
  refine z_iaddN X dL_law_375 ?_
  refine z_sldN X hXs hbl hbA (by omega) (by omega) dL_law_376 ?_
  refine z_aload_n X dL_law_377 rfl ?_
  refine z_runSW X Y wL_113 h rfl rfl (Nat.le_of_ble_eq_true rfl) ⟨by decide, by decide⟩ ⟨by show cells + 1 ≤ _; omega, by show slots + 6 ≤ _; omega⟩ dL_law_378 ?_
  rintro v g1 s1 ⟨⟨m1, m2, m3⟩, hS1, k, hk3, rfl, hM⟩
  replace m1 := m1.trans hx
  replace m2 := m2.trans hm
  replace m3 := m3.trans ho
  refine z_istore X dL_law_381 (by decide) ?_
  refine z_aload_n X dL_law_383 rfl ?_
  refine z_aload_n X dL_law_384 rfl ?_
  refine z_iload X dL_law_385 rfl ?_
  refine z_iconst (v := nI 1) X (by decide) dL_law_387 ?_
  refine z_iaddN X dL_law_388 ?_
  refine z_sldN X hXs hbl hbA (by omega) (by omega) dL_law_389 ?_
  refine z_aload_n X dL_law_390 rfl ?_
  refine z_iload X dL_law_391 rfl ?_
  refine z_iconst (v := nI 2) X (by decide) dL_law_393 ?_
  refine z_iaddN X dL_law_394 ?_
  refine z_sldN X hXs hbl hbA (by omega) (by omega) dL_law_395 ?_
  refine z_runV X kL_116 hM (zso_21 hS1) rfl (by rw [m2]; rfl) (Nat.le_of_ble_eq_true rfl) ⟨by decide, by decide⟩ ⟨by show cells + 1 + 0 ≤ _; omega, by show slots + 6 + 0 ≤ _; omega⟩ dL_law_396 ?_
  rintro w g2 s2 ⟨hg2, r, rfl, h48, hI2, hr⟩
  subst hg2
  refine z_istore X dL_law_399 (by decide) ?_
  refine z_aload_n X dL_law_401 rfl ?_
  refine z_runV X kL_103 (tX9_thrown hS1) (zso_21 hS1) rfl (by rw [m2]; rfl) (Nat.le_of_ble_eq_true rfl) ⟨by decide, by decide⟩ ⟨by show cells + 1 + 0 + 0 ≤ _; omega, by show slots + 6 + 0 + 0 ≤ _; omega⟩ dL_law_402 ?_
  rintro v3 g3 s3 ⟨rfl, hg3, hs3⟩
  subst hg3; subst hs3
  refine z_iload X dL_law_405 rfl ?_
  refine z_icmp_eq (tgt := 412) X dL_law_407 (by decide) (fun c0 => ?_) (fun c0 => absurd h48 c0)
  refine z_iload X dL_law_412 rfl ?_
  refine z_if_ne (tgt := 429) X dL_law_414 (by decide) (fun c1 => ?_) (fun c1 => ?_)
  · skip
    refine z_goto (tgt := 1823) X dL_law_429 (by decide) ?_
    exact z_widen (by show cells + 1 + 0 + 0 ≤ _; omega) (by show slots + 6 + 0 + 0 ≤ _; omega) (z_fgt7 (K _ _ hI2 m1 m2 m3))
  · have k0 : k = 0 := (nI_eq (by omega) (by decide)).mp c1
    refine z_aload_n X dL_law_417 rfl ?_
    refine z_iconst (v := nI 0) X (by decide) dL_law_418 ?_
    refine z_lald0 X (zsa_59 hS1) m3 dL_law_419 ?_
    refine z_iload X dL_law_420 rfl ?_
    refine z_i2l X dL_law_422 ?_
    refine z_lcmp X dL_law_423 ?_
    refine z_if_eq (tgt := 429) X dL_law_424 (by decide) (fun c2 => ?_) (fun c2 => absurd (by rw [hr k0]; exact lg_self _) c2)
    refine z_goto (tgt := 1823) X dL_law_429 (by decide) ?_
    exact z_widen (by show cells + 1 + 0 + 0 ≤ _; omega) (by show slots + 6 + 0 + 0 ≤ _; omega) (z_fgt7 (K _ _ hI2 m1 m2 m3))
set_option maxHeartbeats 4000000 in
set_option maxRecDepth 100000 in
theorem zcs_office {p : Program} {l : Launch} {e : Env} {s : State} {m : MethodId} {args : Array Value} {below : List Frame} {meth : Method} {c : Code} {cells slots : Nat} {Q : State → Prop} {nm : String} {D : va_G} {cy : Nat → ClassId} {z0 b Ls q a1 a2 a3 : Nat} {xs : Nat → Int32} {g : zSh} {σ : zIn} (hfl : l.stackTraces = false) (X : z_cx p s m args meth c RL cL_law 7 ret nm D cy z0) (Y : zTh z0 s) (hXs : va_X b Ls xs s s.heap) (hbl : b < s.heap.size) (hbA : b < z0) (hq : 6 * q + 6 ≤ Ls) (hLs : Ls ≤ 3072) (hce : cells + 5 ≤ room_1.cells) (hsl : slots + 75 ≤ room_1.slots) (H : zInv g σ) (hx : g.2.1 1 = a1) (hm : g.2.1 21 = a2) (ho : g.2.1 59 = a3) (K : ∀ g1 σ1, zInv g1 σ1 → g1.2.1 1 = a1 → g1.2.1 21 = a2 → g1.2.1 59 = a3 → z_V p l e room_1 s m args below meth c 7 D cy z0 (cells + 5) (slots + 75) Q 1823 [some (.ref b), some (.ref a1), some (.ref a2), some (.ref a3), some (.int (nI (6 * q))), none, none] [] g1 σ1) : z_V p l e room_1 s m args below meth c 7 D cy z0 cells slots Q 432 [some (.ref b), some (.ref a1), some (.ref a2), some (.ref a3), some (.int (nI (6 * q))), none, none] [] g σ := by
  have h := zPr_office (D := D) (cy := cy) (z0 := z0) hfl H 
  rw [hx, ho] at h
  refine z_aload_n X dL_law_432 rfl ?_
  refine z_aload_n X dL_law_433 rfl ?_
  refine z_runSW X Y wL_117 h rfl rfl (Nat.le_of_ble_eq_true rfl) ⟨by decide, by decide⟩ ⟨by show cells + 3 ≤ _; omega, by show slots + 23 ≤ _; omega⟩ dL_law_434 ?_
  rintro v g1 s1 ⟨⟨m1, m2, m3⟩, hS1, k, hk3, rfl, hM⟩
  replace m1 := m1.trans hx
  replace m2 := m2.trans hm
  replace m3 := m3.trans ho
  refine z_istore X dL_law_437 (by decide) ?_
  refine z_aload_n X dL_law_439 rfl ?_
  refine z_runV X kL_120 hM (zso_21 hS1) rfl (by rw [m2]; rfl) (Nat.le_of_ble_eq_true rfl) ⟨by decide, by decide⟩ ⟨by show cells + 3 + 0 ≤ _; omega, by show slots + 23 + 0 ≤ _; omega⟩ dL_law_440 ?_
  rintro w g2 s2 ⟨hg2, r, rfl, h48, hI2, hr⟩
  subst hg2
  refine z_istore X dL_law_443 (by decide) ?_
  refine z_aload_n X dL_law_445 rfl ?_
  refine z_runV X kL_103 (tX9_thrown hS1) (zso_21 hS1) rfl (by rw [m2]; rfl) (Nat.le_of_ble_eq_true rfl) ⟨by decide, by decide⟩ ⟨by show cells + 3 + 0 + 0 ≤ _; omega, by show slots + 23 + 0 + 0 ≤ _; omega⟩ dL_law_446 ?_
  rintro v3 g3 s3 ⟨rfl, hg3, hs3⟩
  subst hg3; subst hs3
  refine z_iload X dL_law_449 rfl ?_
  refine z_icmp_eq (tgt := 456) X dL_law_451 (by decide) (fun c0 => ?_) (fun c0 => absurd h48 c0)
  refine z_iload X dL_law_456 rfl ?_
  refine z_if_ne (tgt := 473) X dL_law_458 (by decide) (fun c1 => ?_) (fun c1 => ?_)
  · skip
    refine z_goto (tgt := 1823) X dL_law_473 (by decide) ?_
    exact z_widen (by show cells + 3 + 0 + 0 ≤ _; omega) (by show slots + 23 + 0 + 0 ≤ _; omega) (z_fgt7 (K _ _ hI2 m1 m2 m3))
  · have k0 : k = 0 := (nI_eq (by omega) (by decide)).mp c1
    refine z_aload_n X dL_law_461 rfl ?_
    refine z_iconst (v := nI 0) X (by decide) dL_law_462 ?_
    refine z_lald0 X (zsa_59 hS1) m3 dL_law_463 ?_
    refine z_iload X dL_law_464 rfl ?_
    refine z_i2l X dL_law_466 ?_
    refine z_lcmp X dL_law_467 ?_
    refine z_if_eq (tgt := 473) X dL_law_468 (by decide) (fun c2 => ?_) (fun c2 => absurd (by rw [hr k0]; exact lg_self _) c2)
    refine z_goto (tgt := 1823) X dL_law_473 (by decide) ?_
    exact z_widen (by show cells + 3 + 0 + 0 ≤ _; omega) (by show slots + 23 + 0 + 0 ≤ _; omega) (z_fgt7 (K _ _ hI2 m1 m2 m3))
set_option maxHeartbeats 4000000 in
set_option maxRecDepth 100000 in
theorem zcs_cable {p : Program} {l : Launch} {e : Env} {s : State} {m : MethodId} {args : Array Value} {below : List Frame} {meth : Method} {c : Code} {cells slots : Nat} {Q : State → Prop} {nm : String} {D : va_G} {cy : Nat → ClassId} {z0 b Ls q a1 a2 a3 : Nat} {xs : Nat → Int32} {g : zSh} {σ : zIn} (hfl : l.stackTraces = false) (X : z_cx p s m args meth c RL cL_law 7 ret nm D cy z0) (Y : zTh z0 s) (hXs : va_X b Ls xs s s.heap) (hbl : b < s.heap.size) (hbA : b < z0) (hq : 6 * q + 6 ≤ Ls) (hLs : Ls ≤ 3072) (hce : cells + 5 ≤ room_1.cells) (hsl : slots + 75 ≤ room_1.slots) (H : zInv g σ) (hx : g.2.1 1 = a1) (hm : g.2.1 21 = a2) (ho : g.2.1 59 = a3) (K : ∀ g1 σ1, zInv g1 σ1 → g1.2.1 1 = a1 → g1.2.1 21 = a2 → g1.2.1 59 = a3 → z_V p l e room_1 s m args below meth c 7 D cy z0 (cells + 5) (slots + 75) Q 1823 [some (.ref b), some (.ref a1), some (.ref a2), some (.ref a3), some (.int (nI (6 * q))), none, none] [] g1 σ1) : z_V p l e room_1 s m args below meth c 7 D cy z0 cells slots Q 476 [some (.ref b), some (.ref a1), some (.ref a2), some (.ref a3), some (.int (nI (6 * q))), none, none] [] g σ := by
  have h := zPr_cable (D := D) (cy := cy) (z0 := z0) hfl H (xs (6 * q + 1)) (xs (6 * q + 2)) (xs (6 * q + 3)) (xs (6 * q + 4))
  rw [hx, ho] at h
  refine z_aload_n X dL_law_476 rfl ?_
  refine z_aload_n X dL_law_477 rfl ?_
  refine z_iload X dL_law_478 rfl ?_
  refine z_iconst (v := nI 1) X (by decide) dL_law_480 ?_
  refine z_iaddN X dL_law_481 ?_
  refine z_sldN X hXs hbl hbA (by omega) (by omega) dL_law_482 ?_
  refine z_aload_n X dL_law_483 rfl ?_
  refine z_iload X dL_law_484 rfl ?_
  refine z_iconst (v := nI 2) X (by decide) dL_law_486 ?_
  refine z_iaddN X dL_law_487 ?_
  refine z_sldN X hXs hbl hbA (by omega) (by omega) dL_law_488 ?_
  refine z_aload_n X dL_law_489 rfl ?_
  refine z_iload X dL_law_490 rfl ?_
  refine z_iconst (v := nI 3) X (by decide) dL_law_492 ?_
  refine z_iaddN X dL_law_493 ?_
  refine z_sldN X hXs hbl hbA (by omega) (by omega) dL_law_494 ?_
  refine z_aload_n X dL_law_495 rfl ?_
  refine z_iload X dL_law_496 rfl ?_
  refine z_iconst (v := nI 4) X (by decide) dL_law_498 ?_
  refine z_iaddN X dL_law_499 ?_
  refine z_sldN X hXs hbl hbA (by omega) (by omega) dL_law_500 ?_
  refine z_aload_n X dL_law_501 rfl ?_
  refine z_runSW X Y wL_121 h rfl rfl (Nat.le_of_ble_eq_true rfl) ⟨by decide, by decide⟩ ⟨by show cells + 2 ≤ _; omega, by show slots + 12 ≤ _; omega⟩ dL_law_502 ?_
  rintro v g1 s1 ⟨⟨m1, m2, m3⟩, hS1, k, hk3, rfl, hM⟩
  replace m1 := m1.trans hx
  replace m2 := m2.trans hm
  replace m3 := m3.trans ho
  refine z_istore X dL_law_505 (by decide) ?_
  refine z_aload_n X dL_law_507 rfl ?_
  refine z_aload_n X dL_law_508 rfl ?_
  refine z_iload X dL_law_509 rfl ?_
  refine z_iconst (v := nI 1) X (by decide) dL_law_511 ?_
  refine z_iaddN X dL_law_512 ?_
  refine z_sldN X hXs hbl hbA (by omega) (by omega) dL_law_513 ?_
  refine z_aload_n X dL_law_514 rfl ?_
  refine z_iload X dL_law_515 rfl ?_
  refine z_iconst (v := nI 2) X (by decide) dL_law_517 ?_
  refine z_iaddN X dL_law_518 ?_
  refine z_sldN X hXs hbl hbA (by omega) (by omega) dL_law_519 ?_
  refine z_aload_n X dL_law_520 rfl ?_
  refine z_iload X dL_law_521 rfl ?_
  refine z_iconst (v := nI 3) X (by decide) dL_law_523 ?_
  refine z_iaddN X dL_law_524 ?_
  refine z_sldN X hXs hbl hbA (by omega) (by omega) dL_law_525 ?_
  refine z_aload_n X dL_law_526 rfl ?_
  refine z_iload X dL_law_527 rfl ?_
  refine z_iconst (v := nI 4) X (by decide) dL_law_529 ?_
  refine z_iaddN X dL_law_530 ?_
  refine z_sldN X hXs hbl hbA (by omega) (by omega) dL_law_531 ?_
  refine z_runV X kL_124 hM (zso_21 hS1) rfl (by rw [m2]; rfl) (Nat.le_of_ble_eq_true rfl) ⟨by decide, by decide⟩ ⟨by show cells + 2 + 0 ≤ _; omega, by show slots + 12 + 0 ≤ _; omega⟩ dL_law_532 ?_
  rintro w g2 s2 ⟨hg2, r, rfl, h48, hI2, hr⟩
  subst hg2
  refine z_istore X dL_law_535 (by decide) ?_
  refine z_aload_n X dL_law_537 rfl ?_
  refine z_runV X kL_103 (tX9_thrown hS1) (zso_21 hS1) rfl (by rw [m2]; rfl) (Nat.le_of_ble_eq_true rfl) ⟨by decide, by decide⟩ ⟨by show cells + 2 + 0 + 0 ≤ _; omega, by show slots + 12 + 0 + 0 ≤ _; omega⟩ dL_law_538 ?_
  rintro v3 g3 s3 ⟨rfl, hg3, hs3⟩
  subst hg3; subst hs3
  refine z_iload X dL_law_541 rfl ?_
  refine z_icmp_eq (tgt := 548) X dL_law_543 (by decide) (fun c0 => ?_) (fun c0 => absurd h48 c0)
  refine z_iload X dL_law_548 rfl ?_
  refine z_if_ne (tgt := 565) X dL_law_550 (by decide) (fun c1 => ?_) (fun c1 => ?_)
  · skip
    refine z_goto (tgt := 1823) X dL_law_565 (by decide) ?_
    exact z_widen (by show cells + 2 + 0 + 0 ≤ _; omega) (by show slots + 12 + 0 + 0 ≤ _; omega) (z_fgt7 (K _ _ hI2 m1 m2 m3))
  · have k0 : k = 0 := (nI_eq (by omega) (by decide)).mp c1
    refine z_aload_n X dL_law_553 rfl ?_
    refine z_iconst (v := nI 0) X (by decide) dL_law_554 ?_
    refine z_lald0 X (zsa_59 hS1) m3 dL_law_555 ?_
    refine z_iload X dL_law_556 rfl ?_
    refine z_i2l X dL_law_558 ?_
    refine z_lcmp X dL_law_559 ?_
    refine z_if_eq (tgt := 565) X dL_law_560 (by decide) (fun c2 => ?_) (fun c2 => absurd (by rw [hr k0]; exact lg_self _) c2)
    refine z_goto (tgt := 1823) X dL_law_565 (by decide) ?_
    exact z_widen (by show cells + 2 + 0 + 0 ≤ _; omega) (by show slots + 12 + 0 + 0 ≤ _; omega) (z_fgt7 (K _ _ hI2 m1 m2 m3))
set_option maxHeartbeats 4000000 in
set_option maxRecDepth 100000 in
theorem zcs_broken {p : Program} {l : Launch} {e : Env} {s : State} {m : MethodId} {args : Array Value} {below : List Frame} {meth : Method} {c : Code} {cells slots : Nat} {Q : State → Prop} {nm : String} {D : va_G} {cy : Nat → ClassId} {z0 b Ls q a1 a2 a3 : Nat} {xs : Nat → Int32} {g : zSh} {σ : zIn} (hfl : l.stackTraces = false) (X : z_cx p s m args meth c RL cL_law 7 ret nm D cy z0) (Y : zTh z0 s) (hXs : va_X b Ls xs s s.heap) (hbl : b < s.heap.size) (hbA : b < z0) (hq : 6 * q + 6 ≤ Ls) (hLs : Ls ≤ 3072) (hce : cells + 5 ≤ room_1.cells) (hsl : slots + 75 ≤ room_1.slots) (H : zInv g σ) (hx : g.2.1 1 = a1) (hm : g.2.1 21 = a2) (ho : g.2.1 59 = a3) (K : ∀ g1 σ1, zInv g1 σ1 → g1.2.1 1 = a1 → g1.2.1 21 = a2 → g1.2.1 59 = a3 → z_V p l e room_1 s m args below meth c 7 D cy z0 (cells + 5) (slots + 75) Q 1823 [some (.ref b), some (.ref a1), some (.ref a2), some (.ref a3), some (.int (nI (6 * q))), none, none] [] g1 σ1) : z_V p l e room_1 s m args below meth c 7 D cy z0 cells slots Q 568 [some (.ref b), some (.ref a1), some (.ref a2), some (.ref a3), some (.int (nI (6 * q))), none, none] [] g σ := by
  have h := zPr_broken (D := D) (cy := cy) (z0 := z0) hfl H (xs (6 * q + 1)) (zb (decide (xs (6 * q + 2) ≠ 0))) (zb_01 _)
  rw [hx, ho] at h
  refine z_aload_n X dL_law_568 rfl ?_
  refine z_aload_n X dL_law_569 rfl ?_
  refine z_iload X dL_law_570 rfl ?_
  refine z_iconst (v := nI 1) X (by decide) dL_law_572 ?_
  refine z_iaddN X dL_law_573 ?_
  refine z_sldN X hXs hbl hbA (by omega) (by omega) dL_law_574 ?_
  refine z_aload_n X dL_law_575 rfl ?_
  refine z_iload X dL_law_576 rfl ?_
  refine z_iconst (v := nI 2) X (by decide) dL_law_578 ?_
  refine z_iaddN X dL_law_579 ?_
  refine z_sldN X hXs hbl hbA (by omega) (by omega) dL_law_580 ?_
  refine z_nz X dL_law_581 dL_law_584 dL_law_585 dL_law_588 ?_
  refine z_aload_n X dL_law_589 rfl ?_
  refine z_runSW X Y wL_125 h rfl rfl (Nat.le_of_ble_eq_true rfl) ⟨by decide, by decide⟩ ⟨by show cells + 1 ≤ _; omega, by show slots + 6 ≤ _; omega⟩ dL_law_590 ?_
  rintro v g1 s1 ⟨⟨m1, m2, m3⟩, hS1, k, hk3, rfl, hM⟩
  replace m1 := m1.trans hx
  replace m2 := m2.trans hm
  replace m3 := m3.trans ho
  refine z_istore X dL_law_593 (by decide) ?_
  refine z_aload_n X dL_law_595 rfl ?_
  refine z_aload_n X dL_law_596 rfl ?_
  refine z_iload X dL_law_597 rfl ?_
  refine z_iconst (v := nI 1) X (by decide) dL_law_599 ?_
  refine z_iaddN X dL_law_600 ?_
  refine z_sldN X hXs hbl hbA (by omega) (by omega) dL_law_601 ?_
  refine z_aload_n X dL_law_602 rfl ?_
  refine z_iload X dL_law_603 rfl ?_
  refine z_iconst (v := nI 2) X (by decide) dL_law_605 ?_
  refine z_iaddN X dL_law_606 ?_
  refine z_sldN X hXs hbl hbA (by omega) (by omega) dL_law_607 ?_
  refine z_nz X dL_law_608 dL_law_611 dL_law_612 dL_law_615 ?_
  refine z_runV X kL_128 hM (zso_21 hS1) rfl (by rw [m2]; rfl) (Nat.le_of_ble_eq_true rfl) ⟨by decide, by decide⟩ ⟨by show cells + 1 + 0 ≤ _; omega, by show slots + 6 + 0 ≤ _; omega⟩ dL_law_616 ?_
  rintro w g2 s2 ⟨hg2, r, rfl, h48, hI2, hr⟩
  subst hg2
  refine z_istore X dL_law_619 (by decide) ?_
  refine z_aload_n X dL_law_621 rfl ?_
  refine z_runV X kL_103 (tX9_thrown hS1) (zso_21 hS1) rfl (by rw [m2]; rfl) (Nat.le_of_ble_eq_true rfl) ⟨by decide, by decide⟩ ⟨by show cells + 1 + 0 + 0 ≤ _; omega, by show slots + 6 + 0 + 0 ≤ _; omega⟩ dL_law_622 ?_
  rintro v3 g3 s3 ⟨rfl, hg3, hs3⟩
  subst hg3; subst hs3
  refine z_iload X dL_law_625 rfl ?_
  refine z_icmp_eq (tgt := 632) X dL_law_627 (by decide) (fun c0 => ?_) (fun c0 => absurd h48 c0)
  refine z_iload X dL_law_632 rfl ?_
  refine z_if_ne (tgt := 649) X dL_law_634 (by decide) (fun c1 => ?_) (fun c1 => ?_)
  · skip
    refine z_goto (tgt := 1823) X dL_law_649 (by decide) ?_
    exact z_widen (by show cells + 1 + 0 + 0 ≤ _; omega) (by show slots + 6 + 0 + 0 ≤ _; omega) (z_fgt7 (K _ _ hI2 m1 m2 m3))
  · have k0 : k = 0 := (nI_eq (by omega) (by decide)).mp c1
    refine z_aload_n X dL_law_637 rfl ?_
    refine z_iconst (v := nI 0) X (by decide) dL_law_638 ?_
    refine z_lald0 X (zsa_59 hS1) m3 dL_law_639 ?_
    refine z_iload X dL_law_640 rfl ?_
    refine z_i2l X dL_law_642 ?_
    refine z_lcmp X dL_law_643 ?_
    refine z_if_eq (tgt := 649) X dL_law_644 (by decide) (fun c2 => ?_) (fun c2 => absurd (by rw [hr k0]; exact lg_self _) c2)
    refine z_goto (tgt := 1823) X dL_law_649 (by decide) ?_
    exact z_widen (by show cells + 1 + 0 + 0 ≤ _; omega) (by show slots + 6 + 0 + 0 ≤ _; omega) (z_fgt7 (K _ _ hI2 m1 m2 m3))
set_option maxHeartbeats 4000000 in
set_option maxRecDepth 100000 in
theorem zcs_forbid {p : Program} {l : Launch} {e : Env} {s : State} {m : MethodId} {args : Array Value} {below : List Frame} {meth : Method} {c : Code} {cells slots : Nat} {Q : State → Prop} {nm : String} {D : va_G} {cy : Nat → ClassId} {z0 b Ls q a1 a2 a3 : Nat} {xs : Nat → Int32} {g : zSh} {σ : zIn} (hfl : l.stackTraces = false) (X : z_cx p s m args meth c RL cL_law 7 ret nm D cy z0) (Y : zTh z0 s) (hXs : va_X b Ls xs s s.heap) (hbl : b < s.heap.size) (hbA : b < z0) (hq : 6 * q + 6 ≤ Ls) (hLs : Ls ≤ 3072) (hce : cells + 5 ≤ room_1.cells) (hsl : slots + 75 ≤ room_1.slots) (H : zInv g σ) (hx : g.2.1 1 = a1) (hm : g.2.1 21 = a2) (ho : g.2.1 59 = a3) (K : ∀ g1 σ1, zInv g1 σ1 → g1.2.1 1 = a1 → g1.2.1 21 = a2 → g1.2.1 59 = a3 → z_V p l e room_1 s m args below meth c 7 D cy z0 (cells + 5) (slots + 75) Q 1823 [some (.ref b), some (.ref a1), some (.ref a2), some (.ref a3), some (.int (nI (6 * q))), none, none] [] g1 σ1) : z_V p l e room_1 s m args below meth c 7 D cy z0 cells slots Q 652 [some (.ref b), some (.ref a1), some (.ref a2), some (.ref a3), some (.int (nI (6 * q))), none, none] [] g σ := by
  have h := zPr_forbid2 (D := D) (cy := cy) (z0 := z0) hfl H (xs (6 * q + 1)) (zb (decide (xs (6 * q + 2) ≠ 0))) (zb_01 _)
  rw [hx, ho] at h
  refine z_aload_n X dL_law_652 rfl ?_
  refine z_aload_n X dL_law_653 rfl ?_
  refine z_iload X dL_law_654 rfl ?_
  refine z_iconst (v := nI 1) X (by decide) dL_law_656 ?_
  refine z_iaddN X dL_law_657 ?_
  refine z_sldN X hXs hbl hbA (by omega) (by omega) dL_law_658 ?_
  refine z_aload_n X dL_law_659 rfl ?_
  refine z_iload X dL_law_660 rfl ?_
  refine z_iconst (v := nI 2) X (by decide) dL_law_662 ?_
  refine z_iaddN X dL_law_663 ?_
  refine z_sldN X hXs hbl hbA (by omega) (by omega) dL_law_664 ?_
  refine z_nz X dL_law_665 dL_law_668 dL_law_669 dL_law_672 ?_
  refine z_aload_n X dL_law_673 rfl ?_
  refine z_runSW X Y wL_129 h rfl rfl (Nat.le_of_ble_eq_true rfl) ⟨by decide, by decide⟩ ⟨by show cells + 1 ≤ _; omega, by show slots + 6 ≤ _; omega⟩ dL_law_674 ?_
  rintro v g1 s1 ⟨⟨m1, m2, m3⟩, hS1, k, hk3, rfl, hM⟩
  replace m1 := m1.trans hx
  replace m2 := m2.trans hm
  replace m3 := m3.trans ho
  refine z_istore X dL_law_677 (by decide) ?_
  refine z_aload_n X dL_law_679 rfl ?_
  refine z_aload_n X dL_law_680 rfl ?_
  refine z_iload X dL_law_681 rfl ?_
  refine z_iconst (v := nI 1) X (by decide) dL_law_683 ?_
  refine z_iaddN X dL_law_684 ?_
  refine z_sldN X hXs hbl hbA (by omega) (by omega) dL_law_685 ?_
  refine z_aload_n X dL_law_686 rfl ?_
  refine z_iload X dL_law_687 rfl ?_
  refine z_iconst (v := nI 2) X (by decide) dL_law_689 ?_
  refine z_iaddN X dL_law_690 ?_
  refine z_sldN X hXs hbl hbA (by omega) (by omega) dL_law_691 ?_
  refine z_nz X dL_law_692 dL_law_695 dL_law_696 dL_law_699 ?_
  refine z_runV X kL_131 hM (zso_21 hS1) rfl (by rw [m2]; rfl) (Nat.le_of_ble_eq_true rfl) ⟨by decide, by decide⟩ ⟨by show cells + 1 + 0 ≤ _; omega, by show slots + 6 + 0 ≤ _; omega⟩ dL_law_700 ?_
  rintro w g2 s2 ⟨hg2, r, rfl, h48, hI2, hr⟩
  subst hg2
  refine z_istore X dL_law_703 (by decide) ?_
  refine z_aload_n X dL_law_705 rfl ?_
  refine z_runV X kL_103 (tX9_thrown hS1) (zso_21 hS1) rfl (by rw [m2]; rfl) (Nat.le_of_ble_eq_true rfl) ⟨by decide, by decide⟩ ⟨by show cells + 1 + 0 + 0 ≤ _; omega, by show slots + 6 + 0 + 0 ≤ _; omega⟩ dL_law_706 ?_
  rintro v3 g3 s3 ⟨rfl, hg3, hs3⟩
  subst hg3; subst hs3
  refine z_iload X dL_law_709 rfl ?_
  refine z_icmp_eq (tgt := 716) X dL_law_711 (by decide) (fun c0 => ?_) (fun c0 => absurd h48 c0)
  refine z_iload X dL_law_716 rfl ?_
  refine z_if_ne (tgt := 740) X dL_law_718 (by decide) (fun c1 => ?_) (fun c1 => ?_)
  · skip
    refine z_goto (tgt := 1823) X dL_law_740 (by decide) ?_
    exact z_widen (by show cells + 1 + 0 + 0 ≤ _; omega) (by show slots + 6 + 0 + 0 ≤ _; omega) (z_fgt7 (K _ _ hI2 m1 m2 m3))
  · have k0 : k = 0 := (nI_eq (by omega) (by decide)).mp c1
    refine z_aload_n X dL_law_721 rfl ?_
    refine z_iconst (v := nI 0) X (by decide) dL_law_722 ?_
    refine z_lald0 X (zsa_59 hS1) m3 dL_law_723 ?_
    refine z_iload X dL_law_724 rfl ?_
    refine z_if_eq (tgt := 733) X dL_law_726 (by decide) (fun c3 => ?_) (fun c3 => ?_)
    · skip
      refine z_lconst (v := (0 : Int32).toInt64) X (by decide) dL_law_733 ?_
      refine z_lcmp X dL_law_734 ?_
      refine z_if_eq (tgt := 740) X dL_law_735 (by decide) (fun c2 => ?_) (fun c2 => absurd (by rw [(hr k0).1, c3]; exact lg_self _) c2)
      refine z_goto (tgt := 1823) X dL_law_740 (by decide) ?_
      exact z_widen (by show cells + 1 + 0 + 0 ≤ _; omega) (by show slots + 6 + 0 + 0 ≤ _; omega) (z_fgt7 (K _ _ hI2 m1 m2 m3))
    · skip
      refine z_lconst (v := (1 : Int32).toInt64) X (by decide) dL_law_729 ?_
      refine z_goto (tgt := 734) X dL_law_730 (by decide) ?_
      refine z_lcmp X dL_law_734 ?_
      refine z_if_eq (tgt := 740) X dL_law_735 (by decide) (fun c2 => ?_) (fun c2 => absurd (by rw [(hr k0).1, (hr k0).2.resolve_left c3]; exact lg_self _) c2)
      refine z_goto (tgt := 1823) X dL_law_740 (by decide) ?_
      exact z_widen (by show cells + 1 + 0 + 0 ≤ _; omega) (by show slots + 6 + 0 + 0 ≤ _; omega) (z_fgt7 (K _ _ hI2 m1 m2 m3))
set_option maxHeartbeats 4000000 in
set_option maxRecDepth 100000 in
theorem zcs_key {p : Program} {l : Launch} {e : Env} {s : State} {m : MethodId} {args : Array Value} {below : List Frame} {meth : Method} {c : Code} {cells slots : Nat} {Q : State → Prop} {nm : String} {D : va_G} {cy : Nat → ClassId} {z0 b Ls q a1 a2 a3 : Nat} {xs : Nat → Int32} {g : zSh} {σ : zIn} (hfl : l.stackTraces = false) (X : z_cx p s m args meth c RL cL_law 7 ret nm D cy z0) (Y : zTh z0 s) (hXs : va_X b Ls xs s s.heap) (hbl : b < s.heap.size) (hbA : b < z0) (hq : 6 * q + 6 ≤ Ls) (hLs : Ls ≤ 3072) (hce : cells + 5 ≤ room_1.cells) (hsl : slots + 75 ≤ room_1.slots) (H : zInv g σ) (hx : g.2.1 1 = a1) (hm : g.2.1 21 = a2) (ho : g.2.1 59 = a3) (K : ∀ g1 σ1, zInv g1 σ1 → g1.2.1 1 = a1 → g1.2.1 21 = a2 → g1.2.1 59 = a3 → z_V p l e room_1 s m args below meth c 7 D cy z0 (cells + 5) (slots + 75) Q 1823 [some (.ref b), some (.ref a1), some (.ref a2), some (.ref a3), some (.int (nI (6 * q))), none, none] [] g1 σ1) : z_V p l e room_1 s m args below meth c 7 D cy z0 cells slots Q 743 [some (.ref b), some (.ref a1), some (.ref a2), some (.ref a3), some (.int (nI (6 * q))), none, none] [] g σ := by
  have h := zPr_key (D := D) (cy := cy) (z0 := z0) hfl H (xs (6 * q + 1)) (xs (6 * q + 2))
  rw [hx, ho] at h
  refine z_aload_n X dL_law_743 rfl ?_
  refine z_aload_n X dL_law_744 rfl ?_
  refine z_iload X dL_law_745 rfl ?_
  refine z_iconst (v := nI 1) X (by decide) dL_law_747 ?_
  refine z_iaddN X dL_law_748 ?_
  refine z_sldN X hXs hbl hbA (by omega) (by omega) dL_law_749 ?_
  refine z_aload_n X dL_law_750 rfl ?_
  refine z_iload X dL_law_751 rfl ?_
  refine z_iconst (v := nI 2) X (by decide) dL_law_753 ?_
  refine z_iaddN X dL_law_754 ?_
  refine z_sldN X hXs hbl hbA (by omega) (by omega) dL_law_755 ?_
  refine z_aload_n X dL_law_756 rfl ?_
  refine z_runSW X Y wL_132 h rfl rfl (Nat.le_of_ble_eq_true rfl) ⟨by decide, by decide⟩ ⟨by show cells + 1 ≤ _; omega, by show slots + 6 ≤ _; omega⟩ dL_law_757 ?_
  rintro v g1 s1 ⟨⟨m1, m2, m3⟩, hS1, k, hk3, rfl, hM⟩
  replace m1 := m1.trans hx
  replace m2 := m2.trans hm
  replace m3 := m3.trans ho
  refine z_istore X dL_law_760 (by decide) ?_
  refine z_aload_n X dL_law_762 rfl ?_
  refine z_aload_n X dL_law_763 rfl ?_
  refine z_iload X dL_law_764 rfl ?_
  refine z_iconst (v := nI 1) X (by decide) dL_law_766 ?_
  refine z_iaddN X dL_law_767 ?_
  refine z_sldN X hXs hbl hbA (by omega) (by omega) dL_law_768 ?_
  refine z_aload_n X dL_law_769 rfl ?_
  refine z_iload X dL_law_770 rfl ?_
  refine z_iconst (v := nI 2) X (by decide) dL_law_772 ?_
  refine z_iaddN X dL_law_773 ?_
  refine z_sldN X hXs hbl hbA (by omega) (by omega) dL_law_774 ?_
  refine z_runV X kL_134 hM (zso_21 hS1) rfl (by rw [m2]; rfl) (Nat.le_of_ble_eq_true rfl) ⟨by decide, by decide⟩ ⟨by show cells + 1 + 0 ≤ _; omega, by show slots + 6 + 0 ≤ _; omega⟩ dL_law_775 ?_
  rintro w g2 s2 ⟨hg2, r, rfl, h48, hI2, hr⟩
  subst hg2
  refine z_istore X dL_law_778 (by decide) ?_
  refine z_aload_n X dL_law_780 rfl ?_
  refine z_runV X kL_103 (tX9_thrown hS1) (zso_21 hS1) rfl (by rw [m2]; rfl) (Nat.le_of_ble_eq_true rfl) ⟨by decide, by decide⟩ ⟨by show cells + 1 + 0 + 0 ≤ _; omega, by show slots + 6 + 0 + 0 ≤ _; omega⟩ dL_law_781 ?_
  rintro v3 g3 s3 ⟨rfl, hg3, hs3⟩
  subst hg3; subst hs3
  refine z_iload X dL_law_784 rfl ?_
  refine z_icmp_eq (tgt := 791) X dL_law_786 (by decide) (fun c0 => ?_) (fun c0 => absurd h48 c0)
  refine z_iload X dL_law_791 rfl ?_
  refine z_if_ne (tgt := 808) X dL_law_793 (by decide) (fun c1 => ?_) (fun c1 => ?_)
  · skip
    refine z_goto (tgt := 1823) X dL_law_808 (by decide) ?_
    exact z_widen (by show cells + 1 + 0 + 0 ≤ _; omega) (by show slots + 6 + 0 + 0 ≤ _; omega) (z_fgt7 (K _ _ hI2 m1 m2 m3))
  · have k0 : k = 0 := (nI_eq (by omega) (by decide)).mp c1
    refine z_aload_n X dL_law_796 rfl ?_
    refine z_iconst (v := nI 0) X (by decide) dL_law_797 ?_
    refine z_lald0 X (zsa_59 hS1) m3 dL_law_798 ?_
    refine z_iload X dL_law_799 rfl ?_
    refine z_i2l X dL_law_801 ?_
    refine z_lcmp X dL_law_802 ?_
    refine z_if_eq (tgt := 808) X dL_law_803 (by decide) (fun c2 => ?_) (fun c2 => absurd (by rw [hr k0]; exact lg_self _) c2)
    refine z_goto (tgt := 1823) X dL_law_808 (by decide) ?_
    exact z_widen (by show cells + 1 + 0 + 0 ≤ _; omega) (by show slots + 6 + 0 + 0 ≤ _; omega) (z_fgt7 (K _ _ hI2 m1 m2 m3))
set_option maxHeartbeats 4000000 in
set_option maxRecDepth 100000 in
theorem zcs_conference {p : Program} {l : Launch} {e : Env} {s : State} {m : MethodId} {args : Array Value} {below : List Frame} {meth : Method} {c : Code} {cells slots : Nat} {Q : State → Prop} {nm : String} {D : va_G} {cy : Nat → ClassId} {z0 b Ls q a1 a2 a3 : Nat} {xs : Nat → Int32} {g : zSh} {σ : zIn} (hfl : l.stackTraces = false) (X : z_cx p s m args meth c RL cL_law 7 ret nm D cy z0) (Y : zTh z0 s) (hXs : va_X b Ls xs s s.heap) (hbl : b < s.heap.size) (hbA : b < z0) (hq : 6 * q + 6 ≤ Ls) (hLs : Ls ≤ 3072) (hce : cells + 5 ≤ room_1.cells) (hsl : slots + 75 ≤ room_1.slots) (H : zInv g σ) (hx : g.2.1 1 = a1) (hm : g.2.1 21 = a2) (ho : g.2.1 59 = a3) (K : ∀ g1 σ1, zInv g1 σ1 → g1.2.1 1 = a1 → g1.2.1 21 = a2 → g1.2.1 59 = a3 → z_V p l e room_1 s m args below meth c 7 D cy z0 (cells + 5) (slots + 75) Q 1823 [some (.ref b), some (.ref a1), some (.ref a2), some (.ref a3), some (.int (nI (6 * q))), none, none] [] g1 σ1) : z_V p l e room_1 s m args below meth c 7 D cy z0 cells slots Q 811 [some (.ref b), some (.ref a1), some (.ref a2), some (.ref a3), some (.int (nI (6 * q))), none, none] [] g σ := by
  have h := zPr_conference (D := D) (cy := cy) (z0 := z0) hfl H (xs (6 * q + 1)) (xs (6 * q + 2)) (xs (6 * q + 3)) (xs (6 * q + 4))
  rw [hx, ho] at h
  refine z_aload_n X dL_law_811 rfl ?_
  refine z_aload_n X dL_law_812 rfl ?_
  refine z_iload X dL_law_813 rfl ?_
  refine z_iconst (v := nI 1) X (by decide) dL_law_815 ?_
  refine z_iaddN X dL_law_816 ?_
  refine z_sldN X hXs hbl hbA (by omega) (by omega) dL_law_817 ?_
  refine z_aload_n X dL_law_818 rfl ?_
  refine z_iload X dL_law_819 rfl ?_
  refine z_iconst (v := nI 2) X (by decide) dL_law_821 ?_
  refine z_iaddN X dL_law_822 ?_
  refine z_sldN X hXs hbl hbA (by omega) (by omega) dL_law_823 ?_
  refine z_aload_n X dL_law_824 rfl ?_
  refine z_iload X dL_law_825 rfl ?_
  refine z_iconst (v := nI 3) X (by decide) dL_law_827 ?_
  refine z_iaddN X dL_law_828 ?_
  refine z_sldN X hXs hbl hbA (by omega) (by omega) dL_law_829 ?_
  refine z_aload_n X dL_law_830 rfl ?_
  refine z_iload X dL_law_831 rfl ?_
  refine z_iconst (v := nI 4) X (by decide) dL_law_833 ?_
  refine z_iaddN X dL_law_834 ?_
  refine z_sldN X hXs hbl hbA (by omega) (by omega) dL_law_835 ?_
  refine z_aload_n X dL_law_836 rfl ?_
  refine z_runSW X Y wL_135 h rfl rfl (Nat.le_of_ble_eq_true rfl) ⟨by decide, by decide⟩ ⟨by show cells + 2 ≤ _; omega, by show slots + 11 ≤ _; omega⟩ dL_law_837 ?_
  rintro v g1 s1 ⟨⟨m1, m2, m3⟩, hS1, k, hk3, rfl, hM⟩
  replace m1 := m1.trans hx
  replace m2 := m2.trans hm
  replace m3 := m3.trans ho
  refine z_istore X dL_law_840 (by decide) ?_
  refine z_aload_n X dL_law_842 rfl ?_
  refine z_aload_n X dL_law_843 rfl ?_
  refine z_iload X dL_law_844 rfl ?_
  refine z_iconst (v := nI 1) X (by decide) dL_law_846 ?_
  refine z_iaddN X dL_law_847 ?_
  refine z_sldN X hXs hbl hbA (by omega) (by omega) dL_law_848 ?_
  refine z_aload_n X dL_law_849 rfl ?_
  refine z_iload X dL_law_850 rfl ?_
  refine z_iconst (v := nI 2) X (by decide) dL_law_852 ?_
  refine z_iaddN X dL_law_853 ?_
  refine z_sldN X hXs hbl hbA (by omega) (by omega) dL_law_854 ?_
  refine z_aload_n X dL_law_855 rfl ?_
  refine z_iload X dL_law_856 rfl ?_
  refine z_iconst (v := nI 3) X (by decide) dL_law_858 ?_
  refine z_iaddN X dL_law_859 ?_
  refine z_sldN X hXs hbl hbA (by omega) (by omega) dL_law_860 ?_
  refine z_aload_n X dL_law_861 rfl ?_
  refine z_iload X dL_law_862 rfl ?_
  refine z_iconst (v := nI 4) X (by decide) dL_law_864 ?_
  refine z_iaddN X dL_law_865 ?_
  refine z_sldN X hXs hbl hbA (by omega) (by omega) dL_law_866 ?_
  refine z_runV X kL_137 hM (zso_21 hS1) rfl (by rw [m2]; rfl) (Nat.le_of_ble_eq_true rfl) ⟨by decide, by decide⟩ ⟨by show cells + 2 + 0 ≤ _; omega, by show slots + 11 + 0 ≤ _; omega⟩ dL_law_867 ?_
  rintro w g2 s2 ⟨hg2, r, rfl, h48, hI2, hr⟩
  subst hg2
  refine z_istore X dL_law_870 (by decide) ?_
  refine z_aload_n X dL_law_872 rfl ?_
  refine z_runV X kL_103 (tX9_thrown hS1) (zso_21 hS1) rfl (by rw [m2]; rfl) (Nat.le_of_ble_eq_true rfl) ⟨by decide, by decide⟩ ⟨by show cells + 2 + 0 + 0 ≤ _; omega, by show slots + 11 + 0 + 0 ≤ _; omega⟩ dL_law_873 ?_
  rintro v3 g3 s3 ⟨rfl, hg3, hs3⟩
  subst hg3; subst hs3
  refine z_iload X dL_law_876 rfl ?_
  refine z_icmp_eq (tgt := 883) X dL_law_878 (by decide) (fun c0 => ?_) (fun c0 => absurd h48 c0)
  refine z_iload X dL_law_883 rfl ?_
  refine z_if_ne (tgt := 900) X dL_law_885 (by decide) (fun c1 => ?_) (fun c1 => ?_)
  · skip
    refine z_goto (tgt := 1823) X dL_law_900 (by decide) ?_
    exact z_widen (by show cells + 2 + 0 + 0 ≤ _; omega) (by show slots + 11 + 0 + 0 ≤ _; omega) (z_fgt7 (K _ _ hI2 m1 m2 m3))
  · have k0 : k = 0 := (nI_eq (by omega) (by decide)).mp c1
    refine z_aload_n X dL_law_888 rfl ?_
    refine z_iconst (v := nI 0) X (by decide) dL_law_889 ?_
    refine z_lald0 X (zsa_59 hS1) m3 dL_law_890 ?_
    refine z_iload X dL_law_891 rfl ?_
    refine z_i2l X dL_law_893 ?_
    refine z_lcmp X dL_law_894 ?_
    refine z_if_eq (tgt := 900) X dL_law_895 (by decide) (fun c2 => ?_) (fun c2 => absurd (by rw [hr k0]; exact lg_self _) c2)
    refine z_goto (tgt := 1823) X dL_law_900 (by decide) ?_
    exact z_widen (by show cells + 2 + 0 + 0 ≤ _; omega) (by show slots + 11 + 0 + 0 ≤ _; omega) (z_fgt7 (K _ _ hI2 m1 m2 m3))
set_option maxHeartbeats 4000000 in
set_option maxRecDepth 100000 in
theorem zcs_reserve {p : Program} {l : Launch} {e : Env} {s : State} {m : MethodId} {args : Array Value} {below : List Frame} {meth : Method} {c : Code} {cells slots : Nat} {Q : State → Prop} {nm : String} {D : va_G} {cy : Nat → ClassId} {z0 b Ls q a1 a2 a3 : Nat} {xs : Nat → Int32} {g : zSh} {σ : zIn} (hfl : l.stackTraces = false) (X : z_cx p s m args meth c RL cL_law 7 ret nm D cy z0) (Y : zTh z0 s) (hXs : va_X b Ls xs s s.heap) (hbl : b < s.heap.size) (hbA : b < z0) (hq : 6 * q + 6 ≤ Ls) (hLs : Ls ≤ 3072) (hce : cells + 5 ≤ room_1.cells) (hsl : slots + 75 ≤ room_1.slots) (H : zInv g σ) (hx : g.2.1 1 = a1) (hm : g.2.1 21 = a2) (ho : g.2.1 59 = a3) (K : ∀ g1 σ1, zInv g1 σ1 → g1.2.1 1 = a1 → g1.2.1 21 = a2 → g1.2.1 59 = a3 → z_V p l e room_1 s m args below meth c 7 D cy z0 (cells + 5) (slots + 75) Q 1823 [some (.ref b), some (.ref a1), some (.ref a2), some (.ref a3), some (.int (nI (6 * q))), none, none] [] g1 σ1) : z_V p l e room_1 s m args below meth c 7 D cy z0 cells slots Q 903 [some (.ref b), some (.ref a1), some (.ref a2), some (.ref a3), some (.int (nI (6 * q))), none, none] [] g σ := by
  have h := zPr_reserve (D := D) (cy := cy) (z0 := z0) hfl H (xs (6 * q + 1)) (xs (6 * q + 2))
  rw [hx, ho] at h
  refine z_aload_n X dL_law_903 rfl ?_
  refine z_aload_n X dL_law_904 rfl ?_
  refine z_iload X dL_law_905 rfl ?_
  refine z_iconst (v := nI 1) X (by decide) dL_law_907 ?_
  refine z_iaddN X dL_law_908 ?_
  refine z_sldN X hXs hbl hbA (by omega) (by omega) dL_law_909 ?_
  refine z_aload_n X dL_law_910 rfl ?_
  refine z_iload X dL_law_911 rfl ?_
  refine z_iconst (v := nI 2) X (by decide) dL_law_913 ?_
  refine z_iaddN X dL_law_914 ?_
  refine z_sldN X hXs hbl hbA (by omega) (by omega) dL_law_915 ?_
  refine z_aload_n X dL_law_916 rfl ?_
  refine z_runSW X Y wL_138 h rfl rfl (Nat.le_of_ble_eq_true rfl) ⟨by decide, by decide⟩ ⟨by show cells + 1 ≤ _; omega, by show slots + 6 ≤ _; omega⟩ dL_law_917 ?_
  rintro v g1 s1 ⟨⟨m1, m2, m3⟩, hS1, k, hk3, rfl, hM⟩
  replace m1 := m1.trans hx
  replace m2 := m2.trans hm
  replace m3 := m3.trans ho
  refine z_istore X dL_law_920 (by decide) ?_
  refine z_aload_n X dL_law_922 rfl ?_
  refine z_aload_n X dL_law_923 rfl ?_
  refine z_iload X dL_law_924 rfl ?_
  refine z_iconst (v := nI 1) X (by decide) dL_law_926 ?_
  refine z_iaddN X dL_law_927 ?_
  refine z_sldN X hXs hbl hbA (by omega) (by omega) dL_law_928 ?_
  refine z_aload_n X dL_law_929 rfl ?_
  refine z_iload X dL_law_930 rfl ?_
  refine z_iconst (v := nI 2) X (by decide) dL_law_932 ?_
  refine z_iaddN X dL_law_933 ?_
  refine z_sldN X hXs hbl hbA (by omega) (by omega) dL_law_934 ?_
  refine z_runV X kL_140 hM (zso_21 hS1) rfl (by rw [m2]; rfl) (Nat.le_of_ble_eq_true rfl) ⟨by decide, by decide⟩ ⟨by show cells + 1 + 0 ≤ _; omega, by show slots + 6 + 0 ≤ _; omega⟩ dL_law_935 ?_
  rintro w g2 s2 ⟨hg2, r, rfl, h48, hI2, hr⟩
  subst hg2
  refine z_istore X dL_law_938 (by decide) ?_
  refine z_aload_n X dL_law_940 rfl ?_
  refine z_runV X kL_103 (tX9_thrown hS1) (zso_21 hS1) rfl (by rw [m2]; rfl) (Nat.le_of_ble_eq_true rfl) ⟨by decide, by decide⟩ ⟨by show cells + 1 + 0 + 0 ≤ _; omega, by show slots + 6 + 0 + 0 ≤ _; omega⟩ dL_law_941 ?_
  rintro v3 g3 s3 ⟨rfl, hg3, hs3⟩
  subst hg3; subst hs3
  refine z_iload X dL_law_944 rfl ?_
  refine z_icmp_eq (tgt := 951) X dL_law_946 (by decide) (fun c0 => ?_) (fun c0 => absurd h48 c0)
  refine z_iload X dL_law_951 rfl ?_
  refine z_if_ne (tgt := 968) X dL_law_953 (by decide) (fun c1 => ?_) (fun c1 => ?_)
  · skip
    refine z_goto (tgt := 1823) X dL_law_968 (by decide) ?_
    exact z_widen (by show cells + 1 + 0 + 0 ≤ _; omega) (by show slots + 6 + 0 + 0 ≤ _; omega) (z_fgt7 (K _ _ hI2 m1 m2 m3))
  · have k0 : k = 0 := (nI_eq (by omega) (by decide)).mp c1
    refine z_aload_n X dL_law_956 rfl ?_
    refine z_iconst (v := nI 0) X (by decide) dL_law_957 ?_
    refine z_lald0 X (zsa_59 hS1) m3 dL_law_958 ?_
    refine z_iload X dL_law_959 rfl ?_
    refine z_i2l X dL_law_961 ?_
    refine z_lcmp X dL_law_962 ?_
    refine z_if_eq (tgt := 968) X dL_law_963 (by decide) (fun c2 => ?_) (fun c2 => absurd (by rw [hr k0]; exact lg_self _) c2)
    refine z_goto (tgt := 1823) X dL_law_968 (by decide) ?_
    exact z_widen (by show cells + 1 + 0 + 0 ≤ _; omega) (by show slots + 6 + 0 + 0 ≤ _; omega) (z_fgt7 (K _ _ hI2 m1 m2 m3))
set_option maxHeartbeats 4000000 in
set_option maxRecDepth 100000 in
theorem zcs_draft {p : Program} {l : Launch} {e : Env} {s : State} {m : MethodId} {args : Array Value} {below : List Frame} {meth : Method} {c : Code} {cells slots : Nat} {Q : State → Prop} {nm : String} {D : va_G} {cy : Nat → ClassId} {z0 b Ls q a1 a2 a3 : Nat} {xs : Nat → Int32} {g : zSh} {σ : zIn} (hfl : l.stackTraces = false) (X : z_cx p s m args meth c RL cL_law 7 ret nm D cy z0) (Y : zTh z0 s) (hXs : va_X b Ls xs s s.heap) (hbl : b < s.heap.size) (hbA : b < z0) (hq : 6 * q + 6 ≤ Ls) (hLs : Ls ≤ 3072) (hce : cells + 5 ≤ room_1.cells) (hsl : slots + 75 ≤ room_1.slots) (H : zInv g σ) (hx : g.2.1 1 = a1) (hm : g.2.1 21 = a2) (ho : g.2.1 59 = a3) (K : ∀ g1 σ1, zInv g1 σ1 → g1.2.1 1 = a1 → g1.2.1 21 = a2 → g1.2.1 59 = a3 → z_V p l e room_1 s m args below meth c 7 D cy z0 (cells + 5) (slots + 75) Q 1823 [some (.ref b), some (.ref a1), some (.ref a2), some (.ref a3), some (.int (nI (6 * q))), none, none] [] g1 σ1) : z_V p l e room_1 s m args below meth c 7 D cy z0 cells slots Q 971 [some (.ref b), some (.ref a1), some (.ref a2), some (.ref a3), some (.int (nI (6 * q))), none, none] [] g σ := by
  have h := zPr_draft (D := D) (cy := cy) (z0 := z0) hfl H (xs (6 * q + 1))
  rw [hx, ho] at h
  refine z_aload_n X dL_law_971 rfl ?_
  refine z_aload_n X dL_law_972 rfl ?_
  refine z_iload X dL_law_973 rfl ?_
  refine z_iconst (v := nI 1) X (by decide) dL_law_975 ?_
  refine z_iaddN X dL_law_976 ?_
  refine z_sldN X hXs hbl hbA (by omega) (by omega) dL_law_977 ?_
  refine z_aload_n X dL_law_978 rfl ?_
  refine z_runSW X Y wL_141 h rfl rfl (Nat.le_of_ble_eq_true rfl) ⟨by decide, by decide⟩ ⟨by show cells + 1 ≤ _; omega, by show slots + 6 ≤ _; omega⟩ dL_law_979 ?_
  rintro v g1 s1 ⟨⟨m1, m2, m3⟩, hS1, k, hk3, rfl, hM⟩
  replace m1 := m1.trans hx
  replace m2 := m2.trans hm
  replace m3 := m3.trans ho
  refine z_istore X dL_law_982 (by decide) ?_
  refine z_aload_n X dL_law_984 rfl ?_
  refine z_aload_n X dL_law_985 rfl ?_
  refine z_iload X dL_law_986 rfl ?_
  refine z_iconst (v := nI 1) X (by decide) dL_law_988 ?_
  refine z_iaddN X dL_law_989 ?_
  refine z_sldN X hXs hbl hbA (by omega) (by omega) dL_law_990 ?_
  refine z_runV X kL_143 hM (zso_21 hS1) rfl (by rw [m2]; rfl) (Nat.le_of_ble_eq_true rfl) ⟨by decide, by decide⟩ ⟨by show cells + 1 + 0 ≤ _; omega, by show slots + 6 + 0 ≤ _; omega⟩ dL_law_991 ?_
  rintro w g2 s2 ⟨hg2, r, rfl, h48, hI2, hr⟩
  subst hg2
  refine z_istore X dL_law_994 (by decide) ?_
  refine z_aload_n X dL_law_996 rfl ?_
  refine z_runV X kL_103 (tX9_thrown hS1) (zso_21 hS1) rfl (by rw [m2]; rfl) (Nat.le_of_ble_eq_true rfl) ⟨by decide, by decide⟩ ⟨by show cells + 1 + 0 + 0 ≤ _; omega, by show slots + 6 + 0 + 0 ≤ _; omega⟩ dL_law_997 ?_
  rintro v3 g3 s3 ⟨rfl, hg3, hs3⟩
  subst hg3; subst hs3
  refine z_iload X dL_law_1000 rfl ?_
  refine z_icmp_eq (tgt := 1007) X dL_law_1002 (by decide) (fun c0 => ?_) (fun c0 => absurd h48 c0)
  refine z_iload X dL_law_1007 rfl ?_
  refine z_if_ne (tgt := 1024) X dL_law_1009 (by decide) (fun c1 => ?_) (fun c1 => ?_)
  · skip
    refine z_goto (tgt := 1823) X dL_law_1024 (by decide) ?_
    exact z_widen (by show cells + 1 + 0 + 0 ≤ _; omega) (by show slots + 6 + 0 + 0 ≤ _; omega) (z_fgt7 (K _ _ hI2 m1 m2 m3))
  · have k0 : k = 0 := (nI_eq (by omega) (by decide)).mp c1
    refine z_aload_n X dL_law_1012 rfl ?_
    refine z_iconst (v := nI 0) X (by decide) dL_law_1013 ?_
    refine z_lald0 X (zsa_59 hS1) m3 dL_law_1014 ?_
    refine z_iload X dL_law_1015 rfl ?_
    refine z_i2l X dL_law_1017 ?_
    refine z_lcmp X dL_law_1018 ?_
    refine z_if_eq (tgt := 1024) X dL_law_1019 (by decide) (fun c2 => ?_) (fun c2 => absurd (by rw [hr k0]; exact lg_self _) c2)
    refine z_goto (tgt := 1823) X dL_law_1024 (by decide) ?_
    exact z_widen (by show cells + 1 + 0 + 0 ≤ _; omega) (by show slots + 6 + 0 + 0 ≤ _; omega) (z_fgt7 (K _ _ hI2 m1 m2 m3))
set_option maxHeartbeats 4000000 in
set_option maxRecDepth 100000 in
theorem zcs_words {p : Program} {l : Launch} {e : Env} {s : State} {m : MethodId} {args : Array Value} {below : List Frame} {meth : Method} {c : Code} {cells slots : Nat} {Q : State → Prop} {nm : String} {D : va_G} {cy : Nat → ClassId} {z0 b Ls q a1 a2 a3 : Nat} {xs : Nat → Int32} {g : zSh} {σ : zIn} (hfl : l.stackTraces = false) (X : z_cx p s m args meth c RL cL_law 7 ret nm D cy z0) (Y : zTh z0 s) (hXs : va_X b Ls xs s s.heap) (hbl : b < s.heap.size) (hbA : b < z0) (hq : 6 * q + 6 ≤ Ls) (hLs : Ls ≤ 3072) (hce : cells + 5 ≤ room_1.cells) (hsl : slots + 75 ≤ room_1.slots) (H : zInv g σ) (hx : g.2.1 1 = a1) (hm : g.2.1 21 = a2) (ho : g.2.1 59 = a3) (K : ∀ g1 σ1, zInv g1 σ1 → g1.2.1 1 = a1 → g1.2.1 21 = a2 → g1.2.1 59 = a3 → z_V p l e room_1 s m args below meth c 7 D cy z0 (cells + 5) (slots + 75) Q 1823 [some (.ref b), some (.ref a1), some (.ref a2), some (.ref a3), some (.int (nI (6 * q))), none, none] [] g1 σ1) : z_V p l e room_1 s m args below meth c 7 D cy z0 cells slots Q 1027 [some (.ref b), some (.ref a1), some (.ref a2), some (.ref a3), some (.int (nI (6 * q))), none, none] [] g σ := by
  have h := zPr_words (D := D) (cy := cy) (z0 := z0) hfl H (xs (6 * q + 1)) (decide (xs (6 * q + 2) ≠ 0))
  rw [hx, ho] at h
  refine z_aload_n X dL_law_1027 rfl ?_
  refine z_aload_n X dL_law_1028 rfl ?_
  refine z_iload X dL_law_1029 rfl ?_
  refine z_iconst (v := nI 1) X (by decide) dL_law_1031 ?_
  refine z_iaddN X dL_law_1032 ?_
  refine z_sldN X hXs hbl hbA (by omega) (by omega) dL_law_1033 ?_
  refine z_aload_n X dL_law_1034 rfl ?_
  refine z_iload X dL_law_1035 rfl ?_
  refine z_iconst (v := nI 2) X (by decide) dL_law_1037 ?_
  refine z_iaddN X dL_law_1038 ?_
  refine z_sldN X hXs hbl hbA (by omega) (by omega) dL_law_1039 ?_
  refine z_nz X dL_law_1040 dL_law_1043 dL_law_1044 dL_law_1047 ?_
  refine z_aload_n X dL_law_1048 rfl ?_
  refine z_runSW X Y wL_144 h rfl rfl (Nat.le_of_ble_eq_true rfl) ⟨by decide, by decide⟩ ⟨by show cells + 1 ≤ _; omega, by show slots + 6 ≤ _; omega⟩ dL_law_1049 ?_
  rintro v g1 s1 ⟨⟨m1, m2, m3⟩, hS1, k, hk3, rfl, hM⟩
  replace m1 := m1.trans hx
  replace m2 := m2.trans hm
  replace m3 := m3.trans ho
  refine z_istore X dL_law_1052 (by decide) ?_
  refine z_aload_n X dL_law_1054 rfl ?_
  refine z_aload_n X dL_law_1055 rfl ?_
  refine z_iload X dL_law_1056 rfl ?_
  refine z_iconst (v := nI 1) X (by decide) dL_law_1058 ?_
  refine z_iaddN X dL_law_1059 ?_
  refine z_sldN X hXs hbl hbA (by omega) (by omega) dL_law_1060 ?_
  refine z_aload_n X dL_law_1061 rfl ?_
  refine z_iload X dL_law_1062 rfl ?_
  refine z_iconst (v := nI 2) X (by decide) dL_law_1064 ?_
  refine z_iaddN X dL_law_1065 ?_
  refine z_sldN X hXs hbl hbA (by omega) (by omega) dL_law_1066 ?_
  refine z_nz X dL_law_1067 dL_law_1070 dL_law_1071 dL_law_1074 ?_
  refine z_runV X kL_146 hM (zso_21 hS1) rfl (by rw [m2]; rfl) (Nat.le_of_ble_eq_true rfl) ⟨by decide, by decide⟩ ⟨by show cells + 1 + 0 ≤ _; omega, by show slots + 6 + 0 ≤ _; omega⟩ dL_law_1075 ?_
  rintro w g2 s2 ⟨hg2, r, rfl, h48, hI2, hr⟩
  subst hg2
  refine z_istore X dL_law_1078 (by decide) ?_
  refine z_aload_n X dL_law_1080 rfl ?_
  refine z_runV X kL_103 (tX9_thrown hS1) (zso_21 hS1) rfl (by rw [m2]; rfl) (Nat.le_of_ble_eq_true rfl) ⟨by decide, by decide⟩ ⟨by show cells + 1 + 0 + 0 ≤ _; omega, by show slots + 6 + 0 + 0 ≤ _; omega⟩ dL_law_1081 ?_
  rintro v3 g3 s3 ⟨rfl, hg3, hs3⟩
  subst hg3; subst hs3
  refine z_iload X dL_law_1084 rfl ?_
  refine z_icmp_eq (tgt := 1091) X dL_law_1086 (by decide) (fun c0 => ?_) (fun c0 => absurd h48 c0)
  refine z_iload X dL_law_1091 rfl ?_
  refine z_if_ne (tgt := 1108) X dL_law_1093 (by decide) (fun c1 => ?_) (fun c1 => ?_)
  · skip
    refine z_goto (tgt := 1823) X dL_law_1108 (by decide) ?_
    exact z_widen (by show cells + 1 + 0 + 0 ≤ _; omega) (by show slots + 6 + 0 + 0 ≤ _; omega) (z_fgt7 (K _ _ hI2 m1 m2 m3))
  · have k0 : k = 0 := (nI_eq (by omega) (by decide)).mp c1
    refine z_aload_n X dL_law_1096 rfl ?_
    refine z_iconst (v := nI 0) X (by decide) dL_law_1097 ?_
    refine z_lald0 X (zsa_59 hS1) m3 dL_law_1098 ?_
    refine z_iload X dL_law_1099 rfl ?_
    refine z_i2l X dL_law_1101 ?_
    refine z_lcmp X dL_law_1102 ?_
    refine z_if_eq (tgt := 1108) X dL_law_1103 (by decide) (fun c2 => ?_) (fun c2 => absurd (by rw [hr k0]; exact lg_self _) c2)
    refine z_goto (tgt := 1823) X dL_law_1108 (by decide) ?_
    exact z_widen (by show cells + 1 + 0 + 0 ≤ _; omega) (by show slots + 6 + 0 + 0 ≤ _; omega) (z_fgt7 (K _ _ hI2 m1 m2 m3))
set_option maxHeartbeats 4000000 in
set_option maxRecDepth 100000 in
theorem zcs_send {p : Program} {l : Launch} {e : Env} {s : State} {m : MethodId} {args : Array Value} {below : List Frame} {meth : Method} {c : Code} {cells slots : Nat} {Q : State → Prop} {nm : String} {D : va_G} {cy : Nat → ClassId} {z0 b Ls q a1 a2 a3 : Nat} {xs : Nat → Int32} {g : zSh} {σ : zIn} (hfl : l.stackTraces = false) (X : z_cx p s m args meth c RL cL_law 7 ret nm D cy z0) (Y : zTh z0 s) (hXs : va_X b Ls xs s s.heap) (hbl : b < s.heap.size) (hbA : b < z0) (hq : 6 * q + 6 ≤ Ls) (hLs : Ls ≤ 3072) (hce : cells + 5 ≤ room_1.cells) (hsl : slots + 75 ≤ room_1.slots) (H : zInv g σ) (hx : g.2.1 1 = a1) (hm : g.2.1 21 = a2) (ho : g.2.1 59 = a3) (K : ∀ g1 σ1, zInv g1 σ1 → g1.2.1 1 = a1 → g1.2.1 21 = a2 → g1.2.1 59 = a3 → z_V p l e room_1 s m args below meth c 7 D cy z0 (cells + 5) (slots + 75) Q 1823 [some (.ref b), some (.ref a1), some (.ref a2), some (.ref a3), some (.int (nI (6 * q))), none, none] [] g1 σ1) : z_V p l e room_1 s m args below meth c 7 D cy z0 cells slots Q 1111 [some (.ref b), some (.ref a1), some (.ref a2), some (.ref a3), some (.int (nI (6 * q))), none, none] [] g σ := by
  have h := zPr_send (D := D) (cy := cy) (z0 := z0) hfl H (xs (6 * q + 1)) (xs (6 * q + 2)) (xs (6 * q + 3)) (decide (xs (6 * q + 4) ≠ 0))
  rw [hx, ho] at h
  refine z_aload_n X dL_law_1111 rfl ?_
  refine z_aload_n X dL_law_1112 rfl ?_
  refine z_iload X dL_law_1113 rfl ?_
  refine z_iconst (v := nI 1) X (by decide) dL_law_1115 ?_
  refine z_iaddN X dL_law_1116 ?_
  refine z_sldN X hXs hbl hbA (by omega) (by omega) dL_law_1117 ?_
  refine z_aload_n X dL_law_1118 rfl ?_
  refine z_iload X dL_law_1119 rfl ?_
  refine z_iconst (v := nI 2) X (by decide) dL_law_1121 ?_
  refine z_iaddN X dL_law_1122 ?_
  refine z_sldN X hXs hbl hbA (by omega) (by omega) dL_law_1123 ?_
  refine z_aload_n X dL_law_1124 rfl ?_
  refine z_iload X dL_law_1125 rfl ?_
  refine z_iconst (v := nI 3) X (by decide) dL_law_1127 ?_
  refine z_iaddN X dL_law_1128 ?_
  refine z_sldN X hXs hbl hbA (by omega) (by omega) dL_law_1129 ?_
  refine z_aload_n X dL_law_1130 rfl ?_
  refine z_iload X dL_law_1131 rfl ?_
  refine z_iconst (v := nI 4) X (by decide) dL_law_1133 ?_
  refine z_iaddN X dL_law_1134 ?_
  refine z_sldN X hXs hbl hbA (by omega) (by omega) dL_law_1135 ?_
  refine z_nz X dL_law_1136 dL_law_1139 dL_law_1140 dL_law_1143 ?_
  refine z_aload_n X dL_law_1144 rfl ?_
  refine z_runSW X Y wL_147 h rfl rfl (Nat.le_of_ble_eq_true rfl) ⟨by decide, by decide⟩ ⟨by show cells + 5 ≤ _; omega, by show slots + 75 ≤ _; omega⟩ dL_law_1145 ?_
  rintro v g1 s1 ⟨⟨m1, m2, m3⟩, hS1, k, hk3, rfl, hM⟩
  replace m1 := m1.trans hx
  replace m2 := m2.trans hm
  replace m3 := m3.trans ho
  refine z_istore X dL_law_1148 (by decide) ?_
  refine z_aload_n X dL_law_1150 rfl ?_
  refine z_aload_n X dL_law_1151 rfl ?_
  refine z_iload X dL_law_1152 rfl ?_
  refine z_iconst (v := nI 1) X (by decide) dL_law_1154 ?_
  refine z_iaddN X dL_law_1155 ?_
  refine z_sldN X hXs hbl hbA (by omega) (by omega) dL_law_1156 ?_
  refine z_aload_n X dL_law_1157 rfl ?_
  refine z_iload X dL_law_1158 rfl ?_
  refine z_iconst (v := nI 2) X (by decide) dL_law_1160 ?_
  refine z_iaddN X dL_law_1161 ?_
  refine z_sldN X hXs hbl hbA (by omega) (by omega) dL_law_1162 ?_
  refine z_aload_n X dL_law_1163 rfl ?_
  refine z_iload X dL_law_1164 rfl ?_
  refine z_iconst (v := nI 3) X (by decide) dL_law_1166 ?_
  refine z_iaddN X dL_law_1167 ?_
  refine z_sldN X hXs hbl hbA (by omega) (by omega) dL_law_1168 ?_
  refine z_aload_n X dL_law_1169 rfl ?_
  refine z_iload X dL_law_1170 rfl ?_
  refine z_iconst (v := nI 4) X (by decide) dL_law_1172 ?_
  refine z_iaddN X dL_law_1173 ?_
  refine z_sldN X hXs hbl hbA (by omega) (by omega) dL_law_1174 ?_
  refine z_nz X dL_law_1175 dL_law_1178 dL_law_1179 dL_law_1182 ?_
  refine z_runV X kL_150 hM (zso_21 hS1) rfl (by rw [m2]; rfl) (Nat.le_of_ble_eq_true rfl) ⟨by decide, by decide⟩ ⟨by show cells + 5 + 0 ≤ _; omega, by show slots + 75 + 0 ≤ _; omega⟩ dL_law_1183 ?_
  rintro w g2 s2 ⟨hg2, r, rfl, h48, hI2, hr⟩
  subst hg2
  refine z_istore X dL_law_1186 (by decide) ?_
  refine z_aload_n X dL_law_1188 rfl ?_
  refine z_runV X kL_103 (tX9_thrown hS1) (zso_21 hS1) rfl (by rw [m2]; rfl) (Nat.le_of_ble_eq_true rfl) ⟨by decide, by decide⟩ ⟨by show cells + 5 + 0 + 0 ≤ _; omega, by show slots + 75 + 0 + 0 ≤ _; omega⟩ dL_law_1189 ?_
  rintro v3 g3 s3 ⟨rfl, hg3, hs3⟩
  subst hg3; subst hs3
  refine z_iload X dL_law_1192 rfl ?_
  refine z_icmp_eq (tgt := 1199) X dL_law_1194 (by decide) (fun c0 => ?_) (fun c0 => absurd h48 c0)
  refine z_iload X dL_law_1199 rfl ?_
  refine z_if_ne (tgt := 1216) X dL_law_1201 (by decide) (fun c1 => ?_) (fun c1 => ?_)
  · skip
    refine z_goto (tgt := 1823) X dL_law_1216 (by decide) ?_
    exact z_widen (by show cells + 5 + 0 + 0 ≤ _; omega) (by show slots + 75 + 0 + 0 ≤ _; omega) (z_fgt7 (K _ _ hI2 m1 m2 m3))
  · have k0 : k = 0 := (nI_eq (by omega) (by decide)).mp c1
    refine z_aload_n X dL_law_1204 rfl ?_
    refine z_iconst (v := nI 0) X (by decide) dL_law_1205 ?_
    refine z_lald0 X (zsa_59 hS1) m3 dL_law_1206 ?_
    refine z_iload X dL_law_1207 rfl ?_
    refine z_i2l X dL_law_1209 ?_
    refine z_lcmp X dL_law_1210 ?_
    refine z_if_eq (tgt := 1216) X dL_law_1211 (by decide) (fun c2 => ?_) (fun c2 => absurd (by rw [hr k0]; exact lg_self _) c2)
    refine z_goto (tgt := 1823) X dL_law_1216 (by decide) ?_
    exact z_widen (by show cells + 5 + 0 + 0 ≤ _; omega) (by show slots + 75 + 0 + 0 ≤ _; omega) (z_fgt7 (K _ _ hI2 m1 m2 m3))
set_option maxHeartbeats 4000000 in
set_option maxRecDepth 100000 in
theorem zcs_wrong {p : Program} {l : Launch} {e : Env} {s : State} {m : MethodId} {args : Array Value} {below : List Frame} {meth : Method} {c : Code} {cells slots : Nat} {Q : State → Prop} {nm : String} {D : va_G} {cy : Nat → ClassId} {z0 b Ls q a1 a2 a3 : Nat} {xs : Nat → Int32} {g : zSh} {σ : zIn} (hfl : l.stackTraces = false) (X : z_cx p s m args meth c RL cL_law 7 ret nm D cy z0) (Y : zTh z0 s) (hXs : va_X b Ls xs s s.heap) (hbl : b < s.heap.size) (hbA : b < z0) (hq : 6 * q + 6 ≤ Ls) (hLs : Ls ≤ 3072) (hce : cells + 5 ≤ room_1.cells) (hsl : slots + 75 ≤ room_1.slots) (H : zInv g σ) (hx : g.2.1 1 = a1) (hm : g.2.1 21 = a2) (ho : g.2.1 59 = a3) (K : ∀ g1 σ1, zInv g1 σ1 → g1.2.1 1 = a1 → g1.2.1 21 = a2 → g1.2.1 59 = a3 → z_V p l e room_1 s m args below meth c 7 D cy z0 (cells + 5) (slots + 75) Q 1823 [some (.ref b), some (.ref a1), some (.ref a2), some (.ref a3), some (.int (nI (6 * q))), none, none] [] g1 σ1) : z_V p l e room_1 s m args below meth c 7 D cy z0 cells slots Q 1219 [some (.ref b), some (.ref a1), some (.ref a2), some (.ref a3), some (.int (nI (6 * q))), none, none] [] g σ := by
  have h := zPr_wrong (D := D) (cy := cy) (z0 := z0) hfl H (xs (6 * q + 1)) (xs (6 * q + 2)) (xs (6 * q + 3)) (xs (6 * q + 4))
  rw [hx, ho] at h
  refine z_aload_n X dL_law_1219 rfl ?_
  refine z_aload_n X dL_law_1220 rfl ?_
  refine z_iload X dL_law_1221 rfl ?_
  refine z_iconst (v := nI 1) X (by decide) dL_law_1223 ?_
  refine z_iaddN X dL_law_1224 ?_
  refine z_sldN X hXs hbl hbA (by omega) (by omega) dL_law_1225 ?_
  refine z_aload_n X dL_law_1226 rfl ?_
  refine z_iload X dL_law_1227 rfl ?_
  refine z_iconst (v := nI 2) X (by decide) dL_law_1229 ?_
  refine z_iaddN X dL_law_1230 ?_
  refine z_sldN X hXs hbl hbA (by omega) (by omega) dL_law_1231 ?_
  refine z_aload_n X dL_law_1232 rfl ?_
  refine z_iload X dL_law_1233 rfl ?_
  refine z_iconst (v := nI 3) X (by decide) dL_law_1235 ?_
  refine z_iaddN X dL_law_1236 ?_
  refine z_sldN X hXs hbl hbA (by omega) (by omega) dL_law_1237 ?_
  refine z_aload_n X dL_law_1238 rfl ?_
  refine z_iload X dL_law_1239 rfl ?_
  refine z_iconst (v := nI 4) X (by decide) dL_law_1241 ?_
  refine z_iaddN X dL_law_1242 ?_
  refine z_sldN X hXs hbl hbA (by omega) (by omega) dL_law_1243 ?_
  refine z_aload_n X dL_law_1244 rfl ?_
  refine z_runSW X Y wL_151 h rfl rfl (Nat.le_of_ble_eq_true rfl) ⟨by decide, by decide⟩ ⟨by show cells + 1 ≤ _; omega, by show slots + 6 ≤ _; omega⟩ dL_law_1245 ?_
  rintro v g1 s1 ⟨⟨m1, m2, m3⟩, hS1, k, hk3, rfl, hM⟩
  replace m1 := m1.trans hx
  replace m2 := m2.trans hm
  replace m3 := m3.trans ho
  refine z_istore X dL_law_1248 (by decide) ?_
  refine z_aload_n X dL_law_1250 rfl ?_
  refine z_aload_n X dL_law_1251 rfl ?_
  refine z_iload X dL_law_1252 rfl ?_
  refine z_iconst (v := nI 1) X (by decide) dL_law_1254 ?_
  refine z_iaddN X dL_law_1255 ?_
  refine z_sldN X hXs hbl hbA (by omega) (by omega) dL_law_1256 ?_
  refine z_aload_n X dL_law_1257 rfl ?_
  refine z_iload X dL_law_1258 rfl ?_
  refine z_iconst (v := nI 2) X (by decide) dL_law_1260 ?_
  refine z_iaddN X dL_law_1261 ?_
  refine z_sldN X hXs hbl hbA (by omega) (by omega) dL_law_1262 ?_
  refine z_aload_n X dL_law_1263 rfl ?_
  refine z_iload X dL_law_1264 rfl ?_
  refine z_iconst (v := nI 3) X (by decide) dL_law_1266 ?_
  refine z_iaddN X dL_law_1267 ?_
  refine z_sldN X hXs hbl hbA (by omega) (by omega) dL_law_1268 ?_
  refine z_aload_n X dL_law_1269 rfl ?_
  refine z_iload X dL_law_1270 rfl ?_
  refine z_iconst (v := nI 4) X (by decide) dL_law_1272 ?_
  refine z_iaddN X dL_law_1273 ?_
  refine z_sldN X hXs hbl hbA (by omega) (by omega) dL_law_1274 ?_
  refine z_runV X kL_153 hM (zso_21 hS1) rfl (by rw [m2]; rfl) (Nat.le_of_ble_eq_true rfl) ⟨by decide, by decide⟩ ⟨by show cells + 1 + 0 ≤ _; omega, by show slots + 6 + 0 ≤ _; omega⟩ dL_law_1275 ?_
  rintro w g2 s2 ⟨hg2, r, rfl, h48, hI2, hr⟩
  subst hg2
  refine z_istore X dL_law_1278 (by decide) ?_
  refine z_aload_n X dL_law_1280 rfl ?_
  refine z_runV X kL_103 (tX9_thrown hS1) (zso_21 hS1) rfl (by rw [m2]; rfl) (Nat.le_of_ble_eq_true rfl) ⟨by decide, by decide⟩ ⟨by show cells + 1 + 0 + 0 ≤ _; omega, by show slots + 6 + 0 + 0 ≤ _; omega⟩ dL_law_1281 ?_
  rintro v3 g3 s3 ⟨rfl, hg3, hs3⟩
  subst hg3; subst hs3
  refine z_iload X dL_law_1284 rfl ?_
  refine z_icmp_eq (tgt := 1291) X dL_law_1286 (by decide) (fun c0 => ?_) (fun c0 => absurd h48 c0)
  refine z_iload X dL_law_1291 rfl ?_
  refine z_if_ne (tgt := 1308) X dL_law_1293 (by decide) (fun c1 => ?_) (fun c1 => ?_)
  · skip
    refine z_goto (tgt := 1823) X dL_law_1308 (by decide) ?_
    exact z_widen (by show cells + 1 + 0 + 0 ≤ _; omega) (by show slots + 6 + 0 + 0 ≤ _; omega) (z_fgt7 (K _ _ hI2 m1 m2 m3))
  · have k0 : k = 0 := (nI_eq (by omega) (by decide)).mp c1
    refine z_aload_n X dL_law_1296 rfl ?_
    refine z_iconst (v := nI 0) X (by decide) dL_law_1297 ?_
    refine z_lald0 X (zsa_59 hS1) m3 dL_law_1298 ?_
    refine z_iload X dL_law_1299 rfl ?_
    refine z_i2l X dL_law_1301 ?_
    refine z_lcmp X dL_law_1302 ?_
    refine z_if_eq (tgt := 1308) X dL_law_1303 (by decide) (fun c2 => ?_) (fun c2 => absurd (by rw [hr k0]; exact lg_self _) c2)
    refine z_goto (tgt := 1823) X dL_law_1308 (by decide) ?_
    exact z_widen (by show cells + 1 + 0 + 0 ≤ _; omega) (by show slots + 6 + 0 + 0 ≤ _; omega) (z_fgt7 (K _ _ hI2 m1 m2 m3))
set_option maxHeartbeats 4000000 in
set_option maxRecDepth 100000 in
theorem zcs_pass {p : Program} {l : Launch} {e : Env} {s : State} {m : MethodId} {args : Array Value} {below : List Frame} {meth : Method} {c : Code} {cells slots : Nat} {Q : State → Prop} {nm : String} {D : va_G} {cy : Nat → ClassId} {z0 b Ls q a1 a2 a3 : Nat} {xs : Nat → Int32} {g : zSh} {σ : zIn} (hfl : l.stackTraces = false) (X : z_cx p s m args meth c RL cL_law 7 ret nm D cy z0) (Y : zTh z0 s) (hXs : va_X b Ls xs s s.heap) (hbl : b < s.heap.size) (hbA : b < z0) (hq : 6 * q + 6 ≤ Ls) (hLs : Ls ≤ 3072) (hce : cells + 5 ≤ room_1.cells) (hsl : slots + 75 ≤ room_1.slots) (H : zInv g σ) (hx : g.2.1 1 = a1) (hm : g.2.1 21 = a2) (ho : g.2.1 59 = a3) (K : ∀ g1 σ1, zInv g1 σ1 → g1.2.1 1 = a1 → g1.2.1 21 = a2 → g1.2.1 59 = a3 → z_V p l e room_1 s m args below meth c 7 D cy z0 (cells + 5) (slots + 75) Q 1823 [some (.ref b), some (.ref a1), some (.ref a2), some (.ref a3), some (.int (nI (6 * q))), none, none] [] g1 σ1) : z_V p l e room_1 s m args below meth c 7 D cy z0 cells slots Q 1311 [some (.ref b), some (.ref a1), some (.ref a2), some (.ref a3), some (.int (nI (6 * q))), none, none] [] g σ := by
  have h := zPr_pass (D := D) (cy := cy) (z0 := z0) hfl H (xs (6 * q + 1))
  rw [hx, ho] at h
  refine z_aload_n X dL_law_1311 rfl ?_
  refine z_aload_n X dL_law_1312 rfl ?_
  refine z_iload X dL_law_1313 rfl ?_
  refine z_iconst (v := nI 1) X (by decide) dL_law_1315 ?_
  refine z_iaddN X dL_law_1316 ?_
  refine z_sldN X hXs hbl hbA (by omega) (by omega) dL_law_1317 ?_
  refine z_aload_n X dL_law_1318 rfl ?_
  refine z_runSW X Y wL_154 h rfl rfl (Nat.le_of_ble_eq_true rfl) ⟨by decide, by decide⟩ ⟨by show cells + 1 ≤ _; omega, by show slots + 6 ≤ _; omega⟩ dL_law_1319 ?_
  rintro v g1 s1 ⟨⟨m1, m2, m3⟩, hS1, k, hk3, rfl, hM⟩
  replace m1 := m1.trans hx
  replace m2 := m2.trans hm
  replace m3 := m3.trans ho
  refine z_istore X dL_law_1322 (by decide) ?_
  refine z_aload_n X dL_law_1324 rfl ?_
  refine z_aload_n X dL_law_1325 rfl ?_
  refine z_iload X dL_law_1326 rfl ?_
  refine z_iconst (v := nI 1) X (by decide) dL_law_1328 ?_
  refine z_iaddN X dL_law_1329 ?_
  refine z_sldN X hXs hbl hbA (by omega) (by omega) dL_law_1330 ?_
  refine z_runV X kL_156 hM (zso_21 hS1) rfl (by rw [m2]; rfl) (Nat.le_of_ble_eq_true rfl) ⟨by decide, by decide⟩ ⟨by show cells + 1 + 0 ≤ _; omega, by show slots + 6 + 0 ≤ _; omega⟩ dL_law_1331 ?_
  rintro w g2 s2 ⟨hg2, r, rfl, h48, hI2, hr⟩
  subst hg2
  refine z_istore X dL_law_1334 (by decide) ?_
  refine z_aload_n X dL_law_1336 rfl ?_
  refine z_runV X kL_103 (tX9_thrown hS1) (zso_21 hS1) rfl (by rw [m2]; rfl) (Nat.le_of_ble_eq_true rfl) ⟨by decide, by decide⟩ ⟨by show cells + 1 + 0 + 0 ≤ _; omega, by show slots + 6 + 0 + 0 ≤ _; omega⟩ dL_law_1337 ?_
  rintro v3 g3 s3 ⟨rfl, hg3, hs3⟩
  subst hg3; subst hs3
  refine z_iload X dL_law_1340 rfl ?_
  refine z_icmp_eq (tgt := 1347) X dL_law_1342 (by decide) (fun c0 => ?_) (fun c0 => absurd h48 c0)
  refine z_iload X dL_law_1347 rfl ?_
  refine z_if_ne (tgt := 1364) X dL_law_1349 (by decide) (fun c1 => ?_) (fun c1 => ?_)
  · skip
    refine z_goto (tgt := 1823) X dL_law_1364 (by decide) ?_
    exact z_widen (by show cells + 1 + 0 + 0 ≤ _; omega) (by show slots + 6 + 0 + 0 ≤ _; omega) (z_fgt7 (K _ _ hI2 m1 m2 m3))
  · have k0 : k = 0 := (nI_eq (by omega) (by decide)).mp c1
    refine z_aload_n X dL_law_1352 rfl ?_
    refine z_iconst (v := nI 0) X (by decide) dL_law_1353 ?_
    refine z_lald0 X (zsa_59 hS1) m3 dL_law_1354 ?_
    refine z_iload X dL_law_1355 rfl ?_
    refine z_i2l X dL_law_1357 ?_
    refine z_lcmp X dL_law_1358 ?_
    refine z_if_eq (tgt := 1364) X dL_law_1359 (by decide) (fun c2 => ?_) (fun c2 => absurd (by rw [hr k0]; exact lg_self _) c2)
    refine z_goto (tgt := 1823) X dL_law_1364 (by decide) ?_
    exact z_widen (by show cells + 1 + 0 + 0 ≤ _; omega) (by show slots + 6 + 0 + 0 ≤ _; omega) (z_fgt7 (K _ _ hI2 m1 m2 m3))
set_option maxHeartbeats 4000000 in
set_option maxRecDepth 100000 in
theorem zcs_rest {p : Program} {l : Launch} {e : Env} {s : State} {m : MethodId} {args : Array Value} {below : List Frame} {meth : Method} {c : Code} {cells slots : Nat} {Q : State → Prop} {nm : String} {D : va_G} {cy : Nat → ClassId} {z0 b Ls q a1 a2 a3 : Nat} {xs : Nat → Int32} {g : zSh} {σ : zIn} (hfl : l.stackTraces = false) (X : z_cx p s m args meth c RL cL_law 7 ret nm D cy z0) (Y : zTh z0 s) (hXs : va_X b Ls xs s s.heap) (hbl : b < s.heap.size) (hbA : b < z0) (hq : 6 * q + 6 ≤ Ls) (hLs : Ls ≤ 3072) (hce : cells + 5 ≤ room_1.cells) (hsl : slots + 75 ≤ room_1.slots) (H : zInv g σ) (hx : g.2.1 1 = a1) (hm : g.2.1 21 = a2) (ho : g.2.1 59 = a3) (K : ∀ g1 σ1, zInv g1 σ1 → g1.2.1 1 = a1 → g1.2.1 21 = a2 → g1.2.1 59 = a3 → z_V p l e room_1 s m args below meth c 7 D cy z0 (cells + 5) (slots + 75) Q 1823 [some (.ref b), some (.ref a1), some (.ref a2), some (.ref a3), some (.int (nI (6 * q))), none, none] [] g1 σ1) : z_V p l e room_1 s m args below meth c 7 D cy z0 cells slots Q 1367 [some (.ref b), some (.ref a1), some (.ref a2), some (.ref a3), some (.int (nI (6 * q))), none, none] [] g σ := by
  have h := zPr_rest (D := D) (cy := cy) (z0 := z0) hfl H (xs (6 * q + 1))
  rw [hx, ho] at h
  refine z_aload_n X dL_law_1367 rfl ?_
  refine z_aload_n X dL_law_1368 rfl ?_
  refine z_iload X dL_law_1369 rfl ?_
  refine z_iconst (v := nI 1) X (by decide) dL_law_1371 ?_
  refine z_iaddN X dL_law_1372 ?_
  refine z_sldN X hXs hbl hbA (by omega) (by omega) dL_law_1373 ?_
  refine z_aload_n X dL_law_1374 rfl ?_
  refine z_runSW X Y wL_157 h rfl rfl (Nat.le_of_ble_eq_true rfl) ⟨by decide, by decide⟩ ⟨by show cells + 1 ≤ _; omega, by show slots + 6 ≤ _; omega⟩ dL_law_1375 ?_
  rintro v g1 s1 ⟨⟨m1, m2, m3⟩, hS1, k, hk3, rfl, hM⟩
  replace m1 := m1.trans hx
  replace m2 := m2.trans hm
  replace m3 := m3.trans ho
  refine z_istore X dL_law_1378 (by decide) ?_
  refine z_aload_n X dL_law_1380 rfl ?_
  refine z_aload_n X dL_law_1381 rfl ?_
  refine z_iload X dL_law_1382 rfl ?_
  refine z_iconst (v := nI 1) X (by decide) dL_law_1384 ?_
  refine z_iaddN X dL_law_1385 ?_
  refine z_sldN X hXs hbl hbA (by omega) (by omega) dL_law_1386 ?_
  refine z_runV X kL_159 hM (zso_21 hS1) rfl (by rw [m2]; rfl) (Nat.le_of_ble_eq_true rfl) ⟨by decide, by decide⟩ ⟨by show cells + 1 + 0 ≤ _; omega, by show slots + 6 + 0 ≤ _; omega⟩ dL_law_1387 ?_
  rintro w g2 s2 ⟨hg2, r, rfl, h48, hI2, hr⟩
  subst hg2
  refine z_istore X dL_law_1390 (by decide) ?_
  refine z_aload_n X dL_law_1392 rfl ?_
  refine z_runV X kL_103 (tX9_thrown hS1) (zso_21 hS1) rfl (by rw [m2]; rfl) (Nat.le_of_ble_eq_true rfl) ⟨by decide, by decide⟩ ⟨by show cells + 1 + 0 + 0 ≤ _; omega, by show slots + 6 + 0 + 0 ≤ _; omega⟩ dL_law_1393 ?_
  rintro v3 g3 s3 ⟨rfl, hg3, hs3⟩
  subst hg3; subst hs3
  refine z_iload X dL_law_1396 rfl ?_
  refine z_icmp_eq (tgt := 1403) X dL_law_1398 (by decide) (fun c0 => ?_) (fun c0 => absurd h48 c0)
  refine z_iload X dL_law_1403 rfl ?_
  refine z_if_ne (tgt := 1420) X dL_law_1405 (by decide) (fun c1 => ?_) (fun c1 => ?_)
  · skip
    refine z_goto (tgt := 1823) X dL_law_1420 (by decide) ?_
    exact z_widen (by show cells + 1 + 0 + 0 ≤ _; omega) (by show slots + 6 + 0 + 0 ≤ _; omega) (z_fgt7 (K _ _ hI2 m1 m2 m3))
  · have k0 : k = 0 := (nI_eq (by omega) (by decide)).mp c1
    refine z_aload_n X dL_law_1408 rfl ?_
    refine z_iconst (v := nI 0) X (by decide) dL_law_1409 ?_
    refine z_lald0 X (zsa_59 hS1) m3 dL_law_1410 ?_
    refine z_iload X dL_law_1411 rfl ?_
    refine z_i2l X dL_law_1413 ?_
    refine z_lcmp X dL_law_1414 ?_
    refine z_if_eq (tgt := 1420) X dL_law_1415 (by decide) (fun c2 => ?_) (fun c2 => absurd (by rw [hr k0]; exact lg_self _) c2)
    refine z_goto (tgt := 1823) X dL_law_1420 (by decide) ?_
    exact z_widen (by show cells + 1 + 0 + 0 ≤ _; omega) (by show slots + 6 + 0 + 0 ≤ _; omega) (z_fgt7 (K _ _ hI2 m1 m2 m3))
set_option maxHeartbeats 4000000 in
set_option maxRecDepth 100000 in
theorem zcs_ofMessage {p : Program} {l : Launch} {e : Env} {s : State} {m : MethodId} {args : Array Value} {below : List Frame} {meth : Method} {c : Code} {cells slots : Nat} {Q : State → Prop} {nm : String} {D : va_G} {cy : Nat → ClassId} {z0 b Ls q a1 a2 a3 : Nat} {xs : Nat → Int32} {g : zSh} {σ : zIn} (hfl : l.stackTraces = false) (X : z_cx p s m args meth c RL cL_law 7 ret nm D cy z0) (Y : zTh z0 s) (hXs : va_X b Ls xs s s.heap) (hbl : b < s.heap.size) (hbA : b < z0) (hq : 6 * q + 6 ≤ Ls) (hLs : Ls ≤ 3072) (hce : cells + 5 ≤ room_1.cells) (hsl : slots + 75 ≤ room_1.slots) (H : zInv g σ) (hx : g.2.1 1 = a1) (hm : g.2.1 21 = a2) (ho : g.2.1 59 = a3) (K : ∀ g1 σ1, zInv g1 σ1 → g1.2.1 1 = a1 → g1.2.1 21 = a2 → g1.2.1 59 = a3 → z_V p l e room_1 s m args below meth c 7 D cy z0 (cells + 5) (slots + 75) Q 1823 [some (.ref b), some (.ref a1), some (.ref a2), some (.ref a3), some (.int (nI (6 * q))), none, none] [] g1 σ1) : z_V p l e room_1 s m args below meth c 7 D cy z0 cells slots Q 1423 [some (.ref b), some (.ref a1), some (.ref a2), some (.ref a3), some (.int (nI (6 * q))), none, none] [] g σ := by
  have h := zPr_ofMessage (D := D) (cy := cy) (z0 := z0) hfl H (xs (6 * q + 1)) (xs (6 * q + 2))
  rw [hx, ho] at h
  refine z_aload_n X dL_law_1423 rfl ?_
  refine z_aload_n X dL_law_1424 rfl ?_
  refine z_iload X dL_law_1425 rfl ?_
  refine z_iconst (v := nI 1) X (by decide) dL_law_1427 ?_
  refine z_iaddN X dL_law_1428 ?_
  refine z_sldN X hXs hbl hbA (by omega) (by omega) dL_law_1429 ?_
  refine z_aload_n X dL_law_1430 rfl ?_
  refine z_iload X dL_law_1431 rfl ?_
  refine z_iconst (v := nI 2) X (by decide) dL_law_1433 ?_
  refine z_iaddN X dL_law_1434 ?_
  refine z_sldN X hXs hbl hbA (by omega) (by omega) dL_law_1435 ?_
  refine z_aload_n X dL_law_1436 rfl ?_
  refine z_runSW X Y wL_160 h rfl rfl (Nat.le_of_ble_eq_true rfl) ⟨by decide, by decide⟩ ⟨by show cells + 1 ≤ _; omega, by show slots + 6 ≤ _; omega⟩ dL_law_1437 ?_
  rintro v g1 s1 ⟨⟨m1, m2, m3⟩, hS1, k, hk3, rfl, hM⟩
  replace m1 := m1.trans hx
  replace m2 := m2.trans hm
  replace m3 := m3.trans ho
  refine z_istore X dL_law_1440 (by decide) ?_
  refine z_aload_n X dL_law_1442 rfl ?_
  refine z_aload_n X dL_law_1443 rfl ?_
  refine z_iload X dL_law_1444 rfl ?_
  refine z_iconst (v := nI 1) X (by decide) dL_law_1446 ?_
  refine z_iaddN X dL_law_1447 ?_
  refine z_sldN X hXs hbl hbA (by omega) (by omega) dL_law_1448 ?_
  refine z_aload_n X dL_law_1449 rfl ?_
  refine z_iload X dL_law_1450 rfl ?_
  refine z_iconst (v := nI 2) X (by decide) dL_law_1452 ?_
  refine z_iaddN X dL_law_1453 ?_
  refine z_sldN X hXs hbl hbA (by omega) (by omega) dL_law_1454 ?_
  refine z_runV X kL_162 hM (zso_21 hS1) rfl (by rw [m2]; rfl) (Nat.le_of_ble_eq_true rfl) ⟨by decide, by decide⟩ ⟨by show cells + 1 + 0 ≤ _; omega, by show slots + 6 + 0 ≤ _; omega⟩ dL_law_1455 ?_
  rintro w g2 s2 ⟨hg2, r, rfl, h48, hI2, hr⟩
  subst hg2
  refine z_istore X dL_law_1458 (by decide) ?_
  refine z_aload_n X dL_law_1460 rfl ?_
  refine z_runV X kL_103 (tX9_thrown hS1) (zso_21 hS1) rfl (by rw [m2]; rfl) (Nat.le_of_ble_eq_true rfl) ⟨by decide, by decide⟩ ⟨by show cells + 1 + 0 + 0 ≤ _; omega, by show slots + 6 + 0 + 0 ≤ _; omega⟩ dL_law_1461 ?_
  rintro v3 g3 s3 ⟨rfl, hg3, hs3⟩
  subst hg3; subst hs3
  refine z_iload X dL_law_1464 rfl ?_
  refine z_icmp_eq (tgt := 1471) X dL_law_1466 (by decide) (fun c0 => ?_) (fun c0 => absurd h48 c0)
  refine z_iload X dL_law_1471 rfl ?_
  refine z_if_ne (tgt := 1488) X dL_law_1473 (by decide) (fun c1 => ?_) (fun c1 => ?_)
  · skip
    refine z_goto (tgt := 1823) X dL_law_1488 (by decide) ?_
    exact z_widen (by show cells + 1 + 0 + 0 ≤ _; omega) (by show slots + 6 + 0 + 0 ≤ _; omega) (z_fgt7 (K _ _ hI2 m1 m2 m3))
  · have k0 : k = 0 := (nI_eq (by omega) (by decide)).mp c1
    refine z_aload_n X dL_law_1476 rfl ?_
    refine z_iconst (v := nI 0) X (by decide) dL_law_1477 ?_
    refine z_lald0 X (zsa_59 hS1) m3 dL_law_1478 ?_
    refine z_iload X dL_law_1479 rfl ?_
    refine z_i2l X dL_law_1481 ?_
    refine z_lcmp X dL_law_1482 ?_
    refine z_if_eq (tgt := 1488) X dL_law_1483 (by decide) (fun c2 => ?_) (fun c2 => absurd (by rw [hr k0]; exact lg_self _) c2)
    refine z_goto (tgt := 1823) X dL_law_1488 (by decide) ?_
    exact z_widen (by show cells + 1 + 0 + 0 ≤ _; omega) (by show slots + 6 + 0 + 0 ≤ _; omega) (z_fgt7 (K _ _ hI2 m1 m2 m3))
set_option maxHeartbeats 4000000 in
set_option maxRecDepth 100000 in
theorem zcs_word {p : Program} {l : Launch} {e : Env} {s : State} {m : MethodId} {args : Array Value} {below : List Frame} {meth : Method} {c : Code} {cells slots : Nat} {Q : State → Prop} {nm : String} {D : va_G} {cy : Nat → ClassId} {z0 b Ls q a1 a2 a3 : Nat} {xs : Nat → Int32} {g : zSh} {σ : zIn} (hfl : l.stackTraces = false) (X : z_cx p s m args meth c RL cL_law 7 ret nm D cy z0) (Y : zTh z0 s) (hXs : va_X b Ls xs s s.heap) (hbl : b < s.heap.size) (hbA : b < z0) (hq : 6 * q + 6 ≤ Ls) (hLs : Ls ≤ 3072) (hce : cells + 5 ≤ room_1.cells) (hsl : slots + 75 ≤ room_1.slots) (H : zInv g σ) (hx : g.2.1 1 = a1) (hm : g.2.1 21 = a2) (ho : g.2.1 59 = a3) (K : ∀ g1 σ1, zInv g1 σ1 → g1.2.1 1 = a1 → g1.2.1 21 = a2 → g1.2.1 59 = a3 → z_V p l e room_1 s m args below meth c 7 D cy z0 (cells + 5) (slots + 75) Q 1823 [some (.ref b), some (.ref a1), some (.ref a2), some (.ref a3), some (.int (nI (6 * q))), none, none] [] g1 σ1) : z_V p l e room_1 s m args below meth c 7 D cy z0 cells slots Q 1491 [some (.ref b), some (.ref a1), some (.ref a2), some (.ref a3), some (.int (nI (6 * q))), none, none] [] g σ := by
  have h := zPr_word (D := D) (cy := cy) (z0 := z0) hfl H (xs (6 * q + 1)) (xs (6 * q + 2)) (decide (xs (6 * q + 3) ≠ 0))
  rw [hx, ho] at h
  refine z_aload_n X dL_law_1491 rfl ?_
  refine z_aload_n X dL_law_1492 rfl ?_
  refine z_iload X dL_law_1493 rfl ?_
  refine z_iconst (v := nI 1) X (by decide) dL_law_1495 ?_
  refine z_iaddN X dL_law_1496 ?_
  refine z_sldN X hXs hbl hbA (by omega) (by omega) dL_law_1497 ?_
  refine z_aload_n X dL_law_1498 rfl ?_
  refine z_iload X dL_law_1499 rfl ?_
  refine z_iconst (v := nI 2) X (by decide) dL_law_1501 ?_
  refine z_iaddN X dL_law_1502 ?_
  refine z_sldN X hXs hbl hbA (by omega) (by omega) dL_law_1503 ?_
  refine z_aload_n X dL_law_1504 rfl ?_
  refine z_iload X dL_law_1505 rfl ?_
  refine z_iconst (v := nI 3) X (by decide) dL_law_1507 ?_
  refine z_iaddN X dL_law_1508 ?_
  refine z_sldN X hXs hbl hbA (by omega) (by omega) dL_law_1509 ?_
  refine z_nz X dL_law_1510 dL_law_1513 dL_law_1514 dL_law_1517 ?_
  refine z_aload_n X dL_law_1518 rfl ?_
  refine z_runSW X Y wL_163 h rfl rfl (Nat.le_of_ble_eq_true rfl) ⟨by decide, by decide⟩ ⟨by show cells + 1 ≤ _; omega, by show slots + 6 ≤ _; omega⟩ dL_law_1519 ?_
  rintro v g1 s1 ⟨⟨m1, m2, m3⟩, hS1, k, hk3, rfl, hM⟩
  replace m1 := m1.trans hx
  replace m2 := m2.trans hm
  replace m3 := m3.trans ho
  refine z_istore X dL_law_1522 (by decide) ?_
  refine z_aload_n X dL_law_1524 rfl ?_
  refine z_aload_n X dL_law_1525 rfl ?_
  refine z_iload X dL_law_1526 rfl ?_
  refine z_iconst (v := nI 1) X (by decide) dL_law_1528 ?_
  refine z_iaddN X dL_law_1529 ?_
  refine z_sldN X hXs hbl hbA (by omega) (by omega) dL_law_1530 ?_
  refine z_aload_n X dL_law_1531 rfl ?_
  refine z_iload X dL_law_1532 rfl ?_
  refine z_iconst (v := nI 2) X (by decide) dL_law_1534 ?_
  refine z_iaddN X dL_law_1535 ?_
  refine z_sldN X hXs hbl hbA (by omega) (by omega) dL_law_1536 ?_
  refine z_aload_n X dL_law_1537 rfl ?_
  refine z_iload X dL_law_1538 rfl ?_
  refine z_iconst (v := nI 3) X (by decide) dL_law_1540 ?_
  refine z_iaddN X dL_law_1541 ?_
  refine z_sldN X hXs hbl hbA (by omega) (by omega) dL_law_1542 ?_
  refine z_nz X dL_law_1543 dL_law_1546 dL_law_1547 dL_law_1550 ?_
  refine z_runV X kL_166 hM (zso_21 hS1) rfl (by rw [m2]; rfl) (Nat.le_of_ble_eq_true rfl) ⟨by decide, by decide⟩ ⟨by show cells + 1 + 0 ≤ _; omega, by show slots + 6 + 0 ≤ _; omega⟩ dL_law_1551 ?_
  rintro w g2 s2 ⟨hg2, r, rfl, h48, hI2, hr⟩
  subst hg2
  refine z_istore X dL_law_1554 (by decide) ?_
  refine z_aload_n X dL_law_1556 rfl ?_
  refine z_runV X kL_103 (tX9_thrown hS1) (zso_21 hS1) rfl (by rw [m2]; rfl) (Nat.le_of_ble_eq_true rfl) ⟨by decide, by decide⟩ ⟨by show cells + 1 + 0 + 0 ≤ _; omega, by show slots + 6 + 0 + 0 ≤ _; omega⟩ dL_law_1557 ?_
  rintro v3 g3 s3 ⟨rfl, hg3, hs3⟩
  subst hg3; subst hs3
  refine z_iload X dL_law_1560 rfl ?_
  refine z_icmp_eq (tgt := 1567) X dL_law_1562 (by decide) (fun c0 => ?_) (fun c0 => absurd h48 c0)
  refine z_iload X dL_law_1567 rfl ?_
  refine z_if_ne (tgt := 1584) X dL_law_1569 (by decide) (fun c1 => ?_) (fun c1 => ?_)
  · skip
    refine z_goto (tgt := 1823) X dL_law_1584 (by decide) ?_
    exact z_widen (by show cells + 1 + 0 + 0 ≤ _; omega) (by show slots + 6 + 0 + 0 ≤ _; omega) (z_fgt7 (K _ _ hI2 m1 m2 m3))
  · have k0 : k = 0 := (nI_eq (by omega) (by decide)).mp c1
    refine z_aload_n X dL_law_1572 rfl ?_
    refine z_iconst (v := nI 0) X (by decide) dL_law_1573 ?_
    refine z_lald0 X (zsa_59 hS1) m3 dL_law_1574 ?_
    refine z_iload X dL_law_1575 rfl ?_
    refine z_i2l X dL_law_1577 ?_
    refine z_lcmp X dL_law_1578 ?_
    refine z_if_eq (tgt := 1584) X dL_law_1579 (by decide) (fun c2 => ?_) (fun c2 => absurd (by rw [hr k0]; exact lg_self _) c2)
    refine z_goto (tgt := 1823) X dL_law_1584 (by decide) ?_
    exact z_widen (by show cells + 1 + 0 + 0 ≤ _; omega) (by show slots + 6 + 0 + 0 ≤ _; omega) (z_fgt7 (K _ _ hI2 m1 m2 m3))
set_option maxHeartbeats 4000000 in
set_option maxRecDepth 100000 in
theorem zcs_read {p : Program} {l : Launch} {e : Env} {s : State} {m : MethodId} {args : Array Value} {below : List Frame} {meth : Method} {c : Code} {cells slots : Nat} {Q : State → Prop} {nm : String} {D : va_G} {cy : Nat → ClassId} {z0 b Ls q a1 a2 a3 : Nat} {xs : Nat → Int32} {g : zSh} {σ : zIn} (hfl : l.stackTraces = false) (X : z_cx p s m args meth c RL cL_law 7 ret nm D cy z0) (Y : zTh z0 s) (hXs : va_X b Ls xs s s.heap) (hbl : b < s.heap.size) (hbA : b < z0) (hq : 6 * q + 6 ≤ Ls) (hLs : Ls ≤ 3072) (hce : cells + 5 ≤ room_1.cells) (hsl : slots + 75 ≤ room_1.slots) (H : zInv g σ) (hx : g.2.1 1 = a1) (hm : g.2.1 21 = a2) (ho : g.2.1 59 = a3) (K : ∀ g1 σ1, zInv g1 σ1 → g1.2.1 1 = a1 → g1.2.1 21 = a2 → g1.2.1 59 = a3 → z_V p l e room_1 s m args below meth c 7 D cy z0 (cells + 5) (slots + 75) Q 1823 [some (.ref b), some (.ref a1), some (.ref a2), some (.ref a3), some (.int (nI (6 * q))), none, none] [] g1 σ1) : z_V p l e room_1 s m args below meth c 7 D cy z0 cells slots Q 1587 [some (.ref b), some (.ref a1), some (.ref a2), some (.ref a3), some (.int (nI (6 * q))), none, none] [] g σ := by
  have h := zPr_read (D := D) (cy := cy) (z0 := z0) hfl H (xs (6 * q + 1)) (xs (6 * q + 2))
  rw [hx, ho] at h
  refine z_aload_n X dL_law_1587 rfl ?_
  refine z_aload_n X dL_law_1588 rfl ?_
  refine z_iload X dL_law_1589 rfl ?_
  refine z_iconst (v := nI 1) X (by decide) dL_law_1591 ?_
  refine z_iaddN X dL_law_1592 ?_
  refine z_sldN X hXs hbl hbA (by omega) (by omega) dL_law_1593 ?_
  refine z_aload_n X dL_law_1594 rfl ?_
  refine z_iload X dL_law_1595 rfl ?_
  refine z_iconst (v := nI 2) X (by decide) dL_law_1597 ?_
  refine z_iaddN X dL_law_1598 ?_
  refine z_sldN X hXs hbl hbA (by omega) (by omega) dL_law_1599 ?_
  refine z_aload_n X dL_law_1600 rfl ?_
  refine z_runSW X Y wL_167 h rfl rfl (Nat.le_of_ble_eq_true rfl) ⟨by decide, by decide⟩ ⟨by show cells + 1 ≤ _; omega, by show slots + 6 ≤ _; omega⟩ dL_law_1601 ?_
  rintro v g1 s1 ⟨⟨m1, m2, m3⟩, hS1, k, hk3, rfl, hM⟩
  replace m1 := m1.trans hx
  replace m2 := m2.trans hm
  replace m3 := m3.trans ho
  refine z_istore X dL_law_1604 (by decide) ?_
  refine z_aload_n X dL_law_1606 rfl ?_
  refine z_aload_n X dL_law_1607 rfl ?_
  refine z_iload X dL_law_1608 rfl ?_
  refine z_iconst (v := nI 1) X (by decide) dL_law_1610 ?_
  refine z_iaddN X dL_law_1611 ?_
  refine z_sldN X hXs hbl hbA (by omega) (by omega) dL_law_1612 ?_
  refine z_aload_n X dL_law_1613 rfl ?_
  refine z_iload X dL_law_1614 rfl ?_
  refine z_iconst (v := nI 2) X (by decide) dL_law_1616 ?_
  refine z_iaddN X dL_law_1617 ?_
  refine z_sldN X hXs hbl hbA (by omega) (by omega) dL_law_1618 ?_
  refine z_runV X kL_169 hM (zso_21 hS1) rfl (by rw [m2]; rfl) (Nat.le_of_ble_eq_true rfl) ⟨by decide, by decide⟩ ⟨by show cells + 1 + 0 ≤ _; omega, by show slots + 6 + 0 ≤ _; omega⟩ dL_law_1619 ?_
  rintro w g2 s2 ⟨hg2, r, rfl, h48, hI2, hr⟩
  subst hg2
  refine z_istore X dL_law_1622 (by decide) ?_
  refine z_aload_n X dL_law_1624 rfl ?_
  refine z_runV X kL_103 (tX9_thrown hS1) (zso_21 hS1) rfl (by rw [m2]; rfl) (Nat.le_of_ble_eq_true rfl) ⟨by decide, by decide⟩ ⟨by show cells + 1 + 0 + 0 ≤ _; omega, by show slots + 6 + 0 + 0 ≤ _; omega⟩ dL_law_1625 ?_
  rintro v3 g3 s3 ⟨rfl, hg3, hs3⟩
  subst hg3; subst hs3
  refine z_iload X dL_law_1628 rfl ?_
  refine z_icmp_eq (tgt := 1635) X dL_law_1630 (by decide) (fun c0 => ?_) (fun c0 => absurd h48 c0)
  refine z_iload X dL_law_1635 rfl ?_
  refine z_if_ne (tgt := 1652) X dL_law_1637 (by decide) (fun c1 => ?_) (fun c1 => ?_)
  · skip
    refine z_goto (tgt := 1823) X dL_law_1652 (by decide) ?_
    exact z_widen (by show cells + 1 + 0 + 0 ≤ _; omega) (by show slots + 6 + 0 + 0 ≤ _; omega) (z_fgt7 (K _ _ hI2 m1 m2 m3))
  · have k0 : k = 0 := (nI_eq (by omega) (by decide)).mp c1
    refine z_aload_n X dL_law_1640 rfl ?_
    refine z_iconst (v := nI 0) X (by decide) dL_law_1641 ?_
    refine z_lald0 X (zsa_59 hS1) m3 dL_law_1642 ?_
    refine z_iload X dL_law_1643 rfl ?_
    refine z_i2l X dL_law_1645 ?_
    refine z_lcmp X dL_law_1646 ?_
    refine z_if_eq (tgt := 1652) X dL_law_1647 (by decide) (fun c2 => ?_) (fun c2 => absurd (by rw [hr k0]; exact lg_self _) c2)
    refine z_goto (tgt := 1823) X dL_law_1652 (by decide) ?_
    exact z_widen (by show cells + 1 + 0 + 0 ≤ _; omega) (by show slots + 6 + 0 + 0 ≤ _; omega) (z_fgt7 (K _ _ hI2 m1 m2 m3))
set_option maxHeartbeats 4000000 in
set_option maxRecDepth 100000 in
theorem zcs_claim {p : Program} {l : Launch} {e : Env} {s : State} {m : MethodId} {args : Array Value} {below : List Frame} {meth : Method} {c : Code} {cells slots : Nat} {Q : State → Prop} {nm : String} {D : va_G} {cy : Nat → ClassId} {z0 b Ls q a1 a2 a3 : Nat} {xs : Nat → Int32} {g : zSh} {σ : zIn} (hfl : l.stackTraces = false) (X : z_cx p s m args meth c RL cL_law 7 ret nm D cy z0) (Y : zTh z0 s) (hXs : va_X b Ls xs s s.heap) (hbl : b < s.heap.size) (hbA : b < z0) (hq : 6 * q + 6 ≤ Ls) (hLs : Ls ≤ 3072) (hce : cells + 5 ≤ room_1.cells) (hsl : slots + 75 ≤ room_1.slots) (H : zInv g σ) (hx : g.2.1 1 = a1) (hm : g.2.1 21 = a2) (ho : g.2.1 59 = a3) (K : ∀ g1 σ1, zInv g1 σ1 → g1.2.1 1 = a1 → g1.2.1 21 = a2 → g1.2.1 59 = a3 → z_V p l e room_1 s m args below meth c 7 D cy z0 (cells + 5) (slots + 75) Q 1823 [some (.ref b), some (.ref a1), some (.ref a2), some (.ref a3), some (.int (nI (6 * q))), none, none] [] g1 σ1) : z_V p l e room_1 s m args below meth c 7 D cy z0 cells slots Q 1655 [some (.ref b), some (.ref a1), some (.ref a2), some (.ref a3), some (.int (nI (6 * q))), none, none] [] g σ := by
  have h := zPr_claim (D := D) (cy := cy) (z0 := z0) hfl H (xs (6 * q + 1))
  rw [hx, ho] at h
  refine z_aload_n X dL_law_1655 rfl ?_
  refine z_aload_n X dL_law_1656 rfl ?_
  refine z_iload X dL_law_1657 rfl ?_
  refine z_iconst (v := nI 1) X (by decide) dL_law_1659 ?_
  refine z_iaddN X dL_law_1660 ?_
  refine z_sldN X hXs hbl hbA (by omega) (by omega) dL_law_1661 ?_
  refine z_aload_n X dL_law_1662 rfl ?_
  refine z_runSW X Y wL_170 h rfl rfl (Nat.le_of_ble_eq_true rfl) ⟨by decide, by decide⟩ ⟨by show cells + 1 ≤ _; omega, by show slots + 6 ≤ _; omega⟩ dL_law_1663 ?_
  rintro v g1 s1 ⟨⟨m1, m2, m3⟩, hS1, k, hk3, rfl, hM⟩
  replace m1 := m1.trans hx
  replace m2 := m2.trans hm
  replace m3 := m3.trans ho
  refine z_istore X dL_law_1666 (by decide) ?_
  refine z_aload_n X dL_law_1668 rfl ?_
  refine z_aload_n X dL_law_1669 rfl ?_
  refine z_iload X dL_law_1670 rfl ?_
  refine z_iconst (v := nI 1) X (by decide) dL_law_1672 ?_
  refine z_iaddN X dL_law_1673 ?_
  refine z_sldN X hXs hbl hbA (by omega) (by omega) dL_law_1674 ?_
  refine z_runV X kL_172 hM (zso_21 hS1) rfl (by rw [m2]; rfl) (Nat.le_of_ble_eq_true rfl) ⟨by decide, by decide⟩ ⟨by show cells + 1 + 0 ≤ _; omega, by show slots + 6 + 0 ≤ _; omega⟩ dL_law_1675 ?_
  rintro w g2 s2 ⟨hg2, r, rfl, h48, hI2, hr⟩
  subst hg2
  refine z_istore X dL_law_1678 (by decide) ?_
  refine z_aload_n X dL_law_1680 rfl ?_
  refine z_runV X kL_103 (tX9_thrown hS1) (zso_21 hS1) rfl (by rw [m2]; rfl) (Nat.le_of_ble_eq_true rfl) ⟨by decide, by decide⟩ ⟨by show cells + 1 + 0 + 0 ≤ _; omega, by show slots + 6 + 0 + 0 ≤ _; omega⟩ dL_law_1681 ?_
  rintro v3 g3 s3 ⟨rfl, hg3, hs3⟩
  subst hg3; subst hs3
  refine z_iload X dL_law_1684 rfl ?_
  refine z_icmp_eq (tgt := 1691) X dL_law_1686 (by decide) (fun c0 => ?_) (fun c0 => absurd h48 c0)
  refine z_iload X dL_law_1691 rfl ?_
  refine z_if_ne (tgt := 1708) X dL_law_1693 (by decide) (fun c1 => ?_) (fun c1 => ?_)
  · skip
    refine z_goto (tgt := 1823) X dL_law_1708 (by decide) ?_
    exact z_widen (by show cells + 1 + 0 + 0 ≤ _; omega) (by show slots + 6 + 0 + 0 ≤ _; omega) (z_fgt7 (K _ _ hI2 m1 m2 m3))
  · have k0 : k = 0 := (nI_eq (by omega) (by decide)).mp c1
    refine z_aload_n X dL_law_1696 rfl ?_
    refine z_iconst (v := nI 0) X (by decide) dL_law_1697 ?_
    refine z_lald0 X (zsa_59 hS1) m3 dL_law_1698 ?_
    refine z_iload X dL_law_1699 rfl ?_
    refine z_i2l X dL_law_1701 ?_
    refine z_lcmp X dL_law_1702 ?_
    refine z_if_eq (tgt := 1708) X dL_law_1703 (by decide) (fun c2 => ?_) (fun c2 => absurd (by rw [hr k0]; exact lg_self _) c2)
    refine z_goto (tgt := 1823) X dL_law_1708 (by decide) ?_
    exact z_widen (by show cells + 1 + 0 + 0 ≤ _; omega) (by show slots + 6 + 0 + 0 ≤ _; omega) (z_fgt7 (K _ _ hI2 m1 m2 m3))
set_option maxHeartbeats 4000000 in
set_option maxRecDepth 100000 in
theorem zcs_account {p : Program} {l : Launch} {e : Env} {s : State} {m : MethodId} {args : Array Value} {below : List Frame} {meth : Method} {c : Code} {cells slots : Nat} {Q : State → Prop} {nm : String} {D : va_G} {cy : Nat → ClassId} {z0 b Ls q a1 a2 a3 : Nat} {xs : Nat → Int32} {g : zSh} {σ : zIn} (hfl : l.stackTraces = false) (X : z_cx p s m args meth c RL cL_law 7 ret nm D cy z0) (Y : zTh z0 s) (hXs : va_X b Ls xs s s.heap) (hbl : b < s.heap.size) (hbA : b < z0) (hq : 6 * q + 6 ≤ Ls) (hLs : Ls ≤ 3072) (hce : cells + 5 ≤ room_1.cells) (hsl : slots + 75 ≤ room_1.slots) (H : zInv g σ) (hx : g.2.1 1 = a1) (hm : g.2.1 21 = a2) (ho : g.2.1 59 = a3) (K : ∀ g1 σ1, zInv g1 σ1 → g1.2.1 1 = a1 → g1.2.1 21 = a2 → g1.2.1 59 = a3 → z_V p l e room_1 s m args below meth c 7 D cy z0 (cells + 5) (slots + 75) Q 1823 [some (.ref b), some (.ref a1), some (.ref a2), some (.ref a3), some (.int (nI (6 * q))), none, none] [] g1 σ1) : z_V p l e room_1 s m args below meth c 7 D cy z0 cells slots Q 1711 [some (.ref b), some (.ref a1), some (.ref a2), some (.ref a3), some (.int (nI (6 * q))), none, none] [] g σ := by
  have h := zPr_account (D := D) (cy := cy) (z0 := z0) hfl H (xs (6 * q + 1))
  rw [hx, ho] at h
  refine z_aload_n X dL_law_1711 rfl ?_
  refine z_aload_n X dL_law_1712 rfl ?_
  refine z_iload X dL_law_1713 rfl ?_
  refine z_iconst (v := nI 1) X (by decide) dL_law_1715 ?_
  refine z_iaddN X dL_law_1716 ?_
  refine z_sldN X hXs hbl hbA (by omega) (by omega) dL_law_1717 ?_
  refine z_aload_n X dL_law_1718 rfl ?_
  refine z_runSW X Y wL_173 h rfl rfl (Nat.le_of_ble_eq_true rfl) ⟨by decide, by decide⟩ ⟨by show cells + 1 ≤ _; omega, by show slots + 6 ≤ _; omega⟩ dL_law_1719 ?_
  rintro v g1 s1 ⟨⟨m1, m2, m3⟩, hS1, k, hk3, rfl, hM⟩
  replace m1 := m1.trans hx
  replace m2 := m2.trans hm
  replace m3 := m3.trans ho
  refine z_istore X dL_law_1722 (by decide) ?_
  refine z_aload_n X dL_law_1724 rfl ?_
  refine z_aload_n X dL_law_1725 rfl ?_
  refine z_iload X dL_law_1726 rfl ?_
  refine z_iconst (v := nI 1) X (by decide) dL_law_1728 ?_
  refine z_iaddN X dL_law_1729 ?_
  refine z_sldN X hXs hbl hbA (by omega) (by omega) dL_law_1730 ?_
  refine z_runV X kL_175 hM (zso_21 hS1) rfl (by rw [m2]; rfl) (Nat.le_of_ble_eq_true rfl) ⟨by decide, by decide⟩ ⟨by show cells + 1 + 0 ≤ _; omega, by show slots + 6 + 0 ≤ _; omega⟩ dL_law_1731 ?_
  rintro w g2 s2 ⟨hg2, r, rfl, h48, hI2, hr⟩
  subst hg2
  refine z_istore X dL_law_1734 (by decide) ?_
  refine z_aload_n X dL_law_1736 rfl ?_
  refine z_runV X kL_103 (tX9_thrown hS1) (zso_21 hS1) rfl (by rw [m2]; rfl) (Nat.le_of_ble_eq_true rfl) ⟨by decide, by decide⟩ ⟨by show cells + 1 + 0 + 0 ≤ _; omega, by show slots + 6 + 0 + 0 ≤ _; omega⟩ dL_law_1737 ?_
  rintro v3 g3 s3 ⟨rfl, hg3, hs3⟩
  subst hg3; subst hs3
  refine z_iload X dL_law_1740 rfl ?_
  refine z_icmp_eq (tgt := 1747) X dL_law_1742 (by decide) (fun c0 => ?_) (fun c0 => absurd h48 c0)
  refine z_iload X dL_law_1747 rfl ?_
  refine z_if_ne (tgt := 1764) X dL_law_1749 (by decide) (fun c1 => ?_) (fun c1 => ?_)
  · skip
    refine z_goto (tgt := 1823) X dL_law_1764 (by decide) ?_
    exact z_widen (by show cells + 1 + 0 + 0 ≤ _; omega) (by show slots + 6 + 0 + 0 ≤ _; omega) (z_fgt7 (K _ _ hI2 m1 m2 m3))
  · have k0 : k = 0 := (nI_eq (by omega) (by decide)).mp c1
    refine z_aload_n X dL_law_1752 rfl ?_
    refine z_iconst (v := nI 0) X (by decide) dL_law_1753 ?_
    refine z_lald0 X (zsa_59 hS1) m3 dL_law_1754 ?_
    refine z_iload X dL_law_1755 rfl ?_
    refine z_i2l X dL_law_1757 ?_
    refine z_lcmp X dL_law_1758 ?_
    refine z_if_eq (tgt := 1764) X dL_law_1759 (by decide) (fun c2 => ?_) (fun c2 => absurd (by rw [hr k0]; exact lg_self _) c2)
    refine z_goto (tgt := 1823) X dL_law_1764 (by decide) ?_
    exact z_widen (by show cells + 1 + 0 + 0 ≤ _; omega) (by show slots + 6 + 0 + 0 ≤ _; omega) (z_fgt7 (K _ _ hI2 m1 m2 m3))
set_option maxHeartbeats 4000000 in
set_option maxRecDepth 100000 in
theorem zcs_accountAnew {p : Program} {l : Launch} {e : Env} {s : State} {m : MethodId} {args : Array Value} {below : List Frame} {meth : Method} {c : Code} {cells slots : Nat} {Q : State → Prop} {nm : String} {D : va_G} {cy : Nat → ClassId} {z0 b Ls q a1 a2 a3 : Nat} {xs : Nat → Int32} {g : zSh} {σ : zIn} (hfl : l.stackTraces = false) (X : z_cx p s m args meth c RL cL_law 7 ret nm D cy z0) (Y : zTh z0 s) (hXs : va_X b Ls xs s s.heap) (hbl : b < s.heap.size) (hbA : b < z0) (hq : 6 * q + 6 ≤ Ls) (hLs : Ls ≤ 3072) (hce : cells + 5 ≤ room_1.cells) (hsl : slots + 75 ≤ room_1.slots) (H : zInv g σ) (hx : g.2.1 1 = a1) (hm : g.2.1 21 = a2) (ho : g.2.1 59 = a3) (K : ∀ g1 σ1, zInv g1 σ1 → g1.2.1 1 = a1 → g1.2.1 21 = a2 → g1.2.1 59 = a3 → z_V p l e room_1 s m args below meth c 7 D cy z0 (cells + 5) (slots + 75) Q 1823 [some (.ref b), some (.ref a1), some (.ref a2), some (.ref a3), some (.int (nI (6 * q))), none, none] [] g1 σ1) : z_V p l e room_1 s m args below meth c 7 D cy z0 cells slots Q 1767 [some (.ref b), some (.ref a1), some (.ref a2), some (.ref a3), some (.int (nI (6 * q))), none, none] [] g σ := by
  have h := zPr_accountAnew (D := D) (cy := cy) (z0 := z0) hfl H (xs (6 * q + 1))
  rw [hx, ho] at h
  refine z_aload_n X dL_law_1767 rfl ?_
  refine z_aload_n X dL_law_1768 rfl ?_
  refine z_iload X dL_law_1769 rfl ?_
  refine z_iconst (v := nI 1) X (by decide) dL_law_1771 ?_
  refine z_iaddN X dL_law_1772 ?_
  refine z_sldN X hXs hbl hbA (by omega) (by omega) dL_law_1773 ?_
  refine z_aload_n X dL_law_1774 rfl ?_
  refine z_runSW X Y wL_176 h rfl rfl (Nat.le_of_ble_eq_true rfl) ⟨by decide, by decide⟩ ⟨by show cells + 1 ≤ _; omega, by show slots + 6 ≤ _; omega⟩ dL_law_1775 ?_
  rintro v g1 s1 ⟨⟨m1, m2, m3⟩, hS1, k, hk3, rfl, hM⟩
  replace m1 := m1.trans hx
  replace m2 := m2.trans hm
  replace m3 := m3.trans ho
  refine z_istore X dL_law_1778 (by decide) ?_
  refine z_aload_n X dL_law_1780 rfl ?_
  refine z_aload_n X dL_law_1781 rfl ?_
  refine z_iload X dL_law_1782 rfl ?_
  refine z_iconst (v := nI 1) X (by decide) dL_law_1784 ?_
  refine z_iaddN X dL_law_1785 ?_
  refine z_sldN X hXs hbl hbA (by omega) (by omega) dL_law_1786 ?_
  refine z_runV X kL_178 hM (zso_21 hS1) rfl (by rw [m2]; rfl) (Nat.le_of_ble_eq_true rfl) ⟨by decide, by decide⟩ ⟨by show cells + 1 + 0 ≤ _; omega, by show slots + 6 + 0 ≤ _; omega⟩ dL_law_1787 ?_
  rintro w g2 s2 ⟨hg2, r, rfl, h48, hI2, hr⟩
  subst hg2
  refine z_istore X dL_law_1790 (by decide) ?_
  refine z_aload_n X dL_law_1792 rfl ?_
  refine z_runV X kL_103 (tX9_thrown hS1) (zso_21 hS1) rfl (by rw [m2]; rfl) (Nat.le_of_ble_eq_true rfl) ⟨by decide, by decide⟩ ⟨by show cells + 1 + 0 + 0 ≤ _; omega, by show slots + 6 + 0 + 0 ≤ _; omega⟩ dL_law_1793 ?_
  rintro v3 g3 s3 ⟨rfl, hg3, hs3⟩
  subst hg3; subst hs3
  refine z_iload X dL_law_1796 rfl ?_
  refine z_icmp_eq (tgt := 1803) X dL_law_1798 (by decide) (fun c0 => ?_) (fun c0 => absurd h48 c0)
  refine z_iload X dL_law_1803 rfl ?_
  refine z_if_ne (tgt := 1820) X dL_law_1805 (by decide) (fun c1 => ?_) (fun c1 => ?_)
  · skip
    refine z_goto (tgt := 1823) X dL_law_1820 (by decide) ?_
    exact z_widen (by show cells + 1 + 0 + 0 ≤ _; omega) (by show slots + 6 + 0 + 0 ≤ _; omega) (z_fgt7 (K _ _ hI2 m1 m2 m3))
  · have k0 : k = 0 := (nI_eq (by omega) (by decide)).mp c1
    refine z_aload_n X dL_law_1808 rfl ?_
    refine z_iconst (v := nI 0) X (by decide) dL_law_1809 ?_
    refine z_lald0 X (zsa_59 hS1) m3 dL_law_1810 ?_
    refine z_iload X dL_law_1811 rfl ?_
    refine z_i2l X dL_law_1813 ?_
    refine z_lcmp X dL_law_1814 ?_
    refine z_if_eq (tgt := 1820) X dL_law_1815 (by decide) (fun c2 => ?_) (fun c2 => absurd (by rw [hr k0]; exact lg_self _) c2)
    refine z_goto (tgt := 1823) X dL_law_1820 (by decide) ?_
    exact z_widen (by show cells + 1 + 0 + 0 ≤ _; omega) (by show slots + 6 + 0 + 0 ≤ _; omega) (z_fgt7 (K _ _ hI2 m1 m2 m3))
