/-- the law's walk up to its loop -/
def z_g0 : zSh := ([], fun _ => 0, fun _ => 0, fun _ => 0, fun _ _ => 0)
set_option maxHeartbeats 4000000 in
set_option maxRecDepth 100000 in
theorem law_walk {p : Program} {l : Launch} {e : Env} {s : State} {m : MethodId} {args : Array Value} {below : List Frame} {meth : Method} {c : Code} {Q : State → Prop} {nm : String} {D : va_G} {cy : Nat → ClassId} {z0 b Ls : Nat} {xs : Nat → Int32} (hfl : l.stackTraces = false) (X : z_cx p s m args meth c RL cL_law 7 ret nm D cy z0) (Y : zTh z0 s) (hXs : va_X b Ls xs s s.heap) (hbl : b < s.heap.size) (hbA : b < z0) (hLs : Ls ≤ 3072)
    (hend : ∀ cells slots (L : List (Option Value)) g σ, cells ≤ 2700 → slots ≤ 60000 → z_V p l e room_1 s m args below meth c 7 D cy z0 cells slots Q 1829 L [] g σ) (σ0 : zIn) : z_V p l e room_1 s m args below meth c 7 D cy z0 0 0 Q 0 [some (.ref b), none, none, none, none, none, none] [] z_g0 σ0 := by
  have d0 : zDs [] [] [] [] [] [] (fun _ => 0) (fun _ _ => 0) z_g0 σ0 := ⟨(fun j hj => absurd hj List.not_mem_nil), rfl, (fun q hq => absurd hq List.not_mem_nil), (fun q hq => absurd hq List.not_mem_nil), (fun q hq => absurd hq List.not_mem_nil), (fun q hq => absurd hq List.not_mem_nil), (fun q hq => absurd hq List.not_mem_nil), (fun q hq => absurd hq List.not_mem_nil)⟩
  refine z_new X (i := 1) nwL_8 d0.1 (d0.nin List.not_mem_nil) (by decide) (Nat.le_of_ble_eq_true rfl) (Nat.le_of_ble_eq_true rfl) dL_law_0 (fun a => ?_)
  have d1 := ((d0.add (i := 1) (a := a) (kd := 8) (n := 0) List.not_mem_nil (fun q hq => absurd hq List.not_mem_nil) List.not_mem_nil (fun _ => rfl)).obj z_ob_at).re [1] (by decide)
  have ea : (z_add z_g0 1 a 8 0).2.1 1 = a := z_add_at
  generalize z_add z_g0 1 a 8 0 = g1 at d1 ea ⊢
  generalize z_zero σ0 1 = s1 at d1 ⊢
  refine z_dup X rfl dL_law_3 ?_
  refine z_runI (b := 1) (As := []) (rest := [.ref a]) X kL_93 (tX8_init d1 rfl) rfl (by rw [ea]; rfl) (Nat.le_of_ble_eq_true rfl) ⟨by decide, by decide⟩ ⟨Nat.le_of_ble_eq_true rfl, Nat.le_of_ble_eq_true rfl⟩ dL_law_4 ?_
  rintro v g2 s2 ⟨rfl, hA, ad, d2⟩
  replace hA := hA.trans ea
  clear d1 ea
  refine z_astore_n X dL_law_7 (by decide) ?_
  refine z_new X (i := 21) nwL_94 d2.1 (d2.nin (by decide)) (by decide) (Nat.le_of_ble_eq_true rfl) (Nat.le_of_ble_eq_true rfl) dL_law_8 (fun a' => ?_)
  have d3 := (((d2.add (i := 21) (a := a') (kd := 9) (n := 0) (by decide) (by decide) (by decide) (fun k => by unfold zK_nu; rw [z_up_ne (by decide), z_up_ne (by decide)])).obj z_ob_at).nls (n2 := [14, 15, 19, 20]) (by decide)).re [1, 21] (by decide)
  have hA3 : (z_add g2 21 a' 9 0).2.1 1 = a := (z_add_ne (by decide)).trans hA
  have ea3 : (z_add g2 21 a' 9 0).2.1 21 = a' := z_add_at
  generalize z_add g2 21 a' 9 0 = g3 at d3 hA3 ea3 ⊢
  generalize z_zero s2 21 = s3 at d3 ⊢
  clear d2 hA
  refine z_dup X rfl dL_law_11 ?_
  refine z_runI (b := 21) (As := []) (rest := [.ref a']) X kL_96 (tX9_init d3 (by decide) (by decide) (fun i hi => ⟨?_, ?_, fun k => ?_, ?_⟩) (by decide)) rfl (by rw [ea3]; rfl) (Nat.le_of_ble_eq_true rfl) ⟨by decide, by decide⟩ ⟨Nat.le_of_ble_eq_true rfl, Nat.le_of_ble_eq_true rfl⟩ dL_law_12 ?_
  · revert hi; revert i; decide
  · revert hi; revert i; decide
  · have : i ≠ 18 := by revert hi; revert i; decide
    unfold zK_nu
    rw [z_up_ne this, z_up_ne this]
  · revert hi; revert i; decide
  rintro v g4 s4 ⟨rfl, d4⟩
  have hA4 : g4.2.1 1 = a := (d4.adr (by decide)).trans hA3
  have hB4 : g4.2.1 21 = a' := (d4.adr (by decide)).trans ea3
  clear hA3 ea3 d3
  refine z_astore_n X dL_law_15 (by decide) ?_
  refine z_iconst (v := nI 1) X (by decide) dL_law_16 ?_
  refine z_newaJ X (i := 59) (N := 1) ac_long d4.1 (d4.nin (by decide)) (by decide) (by decide) (by decide) (by omega) (Nat.le_of_ble_eq_true rfl) (Nat.le_of_ble_eq_true rfl) dL_law_17 (fun a3 => ?_)
  have d5 := (d4.add (i := 59) (a := a3) (kd := 10 + 2) (n := 1) (by decide) (by decide) (by decide) (fun k => by unfold zK_nu; rw [z_up_ne (by decide), z_up_ne (by decide), z_up_ne (by decide), z_up_ne (by decide)])).arr z_ar_at
  have hA5 : (z_add g4 59 a3 (10 + 2) 1).2.1 1 = a := (z_add_ne (by decide)).trans hA4
  have hB5 : (z_add g4 59 a3 (10 + 2) 1).2.1 21 = a' := (z_add_ne (by decide)).trans hB4
  have hC5 : (z_add g4 59 a3 (10 + 2) 1).2.1 59 = a3 := z_add_at
  generalize z_add g4 59 a3 (10 + 2) 1 = g5 at d5 hA5 hB5 hC5 ⊢
  generalize z_zero s4 59 = s5 at d5 ⊢
  refine z_astore_n X dL_law_19 (by decide) ?_
  refine z_iconst (v := nI 0) X (by decide) dL_law_20 ?_
  refine z_istore X dL_law_21 (by decide) ?_
  have HR := zRel_0 d5 (by decide) (by decide) (by decide) (by decide) (by decide) (by decide) (fun i k => rfl)
  exact z_widen (Nat.le_of_ble_eq_true rfl) (Nat.le_of_ble_eq_true rfl) (law_loop hfl X Y hXs hbl hbA hLs hend (Ls + 7) 0 g5 s5 (by omega) (by omega) (zInv_of HR) hA5 hB5 hC5)
