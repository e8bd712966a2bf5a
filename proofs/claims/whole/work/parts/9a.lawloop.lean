/-! the law: its loop -/
theorem law_loop {p : Program} {l : Launch} {e : Env} {s : State} {m : MethodId} {args : Array Value} {below : List Frame} {meth : Method} {c : Code} {Q : State → Prop} {nm : String} {D : va_G} {cy : Nat → ClassId} {z0 b Ls a1 a2 a3 : Nat} {xs : Nat → Int32} (hfl : l.stackTraces = false) (X : z_cx p s m args meth c RL cL_law 7 ret nm D cy z0) (Y : zTh z0 s) (hXs : va_X b Ls xs s s.heap) (hbl : b < s.heap.size) (hbA : b < z0) (hLs : Ls ≤ 3072)
    (hend : ∀ cells slots (L : List (Option Value)) g σ, cells ≤ 2700 → slots ≤ 60000 → z_V p l e room_1 s m args below meth c 7 D cy z0 cells slots Q 1829 L [] g σ) : ∀ n q g σ, Ls + 6 < n + 6 * q → 6 * q ≤ Ls → zInv g σ → g.2.1 1 = a1 → g.2.1 21 = a2 → g.2.1 59 = a3 → z_V p l e room_1 s m args below meth c 7 D cy z0 (100 + 5 * q) (20000 + 75 * q) Q 23 [some (.ref b), some (.ref a1), some (.ref a2), some (.ref a3), some (.int (nI (6 * q))), none, none] [] g σ := by
  have r1 : 2705 ≤ room_1.cells := Nat.le_of_ble_eq_true rfl
  have r2 : 60075 ≤ room_1.slots := Nat.le_of_ble_eq_true rfl
  intro n
  induction n with
  | zero => intro q g σ h1 h2; omega
  | succ n ih =>
    intro q g σ h1 hq H hx hm ho
    refine z_iload X dL_law_23 rfl ?_
    refine z_aload_n X dL_law_25 rfl ?_
    refine z_slenN X hXs hbl hbA dL_law_26 ?_
    refine z_bipush (v := nI 6) X (by decide) dL_law_27 ?_
    refine z_isub X dL_law_29 ?_
    refine z_icmp_gt (tgt := 1829) X dL_law_30 (by decide) (fun c0 => hend _ _ _ _ _ (by omega) (by omega)) (fun c0 => ?_)
    have hq6 : 6 * q + 6 ≤ Ls := by
      rw [Int32.lt_iff_toInt_lt] at c0
      have t1 : (nI Ls).toInt = Ls := nI_toInt (by omega)
      have t2 : (nI 6).toInt = 6 := nI_toInt (by omega)
      have t3 : (nI (6 * q)).toInt = ((6 * q : Nat) : Int) := nI_toInt (by omega)
      rw [fb_subI (by rw [t1, t2]; omega) (by rw [t1, t2]; omega), t1, t2, t3] at c0
      omega
    refine z_aload_n X dL_law_33 rfl ?_
    refine z_iload X dL_law_34 rfl ?_
    refine z_sldN X hXs hbl hbA (by omega) (by omega) dL_law_36 ?_
    refine z_bipush (v := nI 31) X (by decide) dL_law_37 ?_
    refine z_iand X dL_law_39 ?_
    have K : ∀ g1 σ1, zInv g1 σ1 → g1.2.1 1 = a1 → g1.2.1 21 = a2 → g1.2.1 59 = a3 → z_V p l e room_1 s m args below meth c 7 D cy z0 (100 + 5 * q + 5) (20000 + 75 * q + 75) Q 1823 [some (.ref b), some (.ref a1), some (.ref a2), some (.ref a3), some (.int (nI (6 * q))), none, none] [] g1 σ1 := by
      intro g1 σ1 q1 q2 q3 q4
      refine z_iinc (v := nI 6) X dL_law_1823 rfl (by decide) (by decide) ?_
      refine z_goto (tgt := 23) X dL_law_1826 (by decide) ?_
      have h := ih (q + 1) g1 σ1 (by omega) (by omega) q1 q2 q3 q4
      rw [show 6 * (q + 1) = 6 * q + 6 by omega, nI_ad] at h
      exact z_widen (by omega) (by omega) h
    have hce : 100 + 5 * q + 5 ≤ room_1.cells := by omega
    have hsl : 20000 + 75 * q + 75 ≤ room_1.slots := by omega
    generalize xs (6 * q) &&& nI 31 = w
    rcases zsw 23 w with ⟨j, hj, ew⟩ | hj
    · subst ew
      have hc : j = 0 ∨ j = 1 ∨ j = 2 ∨ j = 3 ∨ j = 4 ∨ j = 5 ∨ j = 6 ∨ j = 7 ∨ j = 8 ∨ j = 9 ∨ j = 10 ∨ j = 11 ∨ j = 12 ∨ j = 13 ∨ j = 14 ∨ j = 15 ∨ j = 16 ∨ j = 17 ∨ j = 18 ∨ j = 19 ∨ j = 20 ∨ j = 21 ∨ j = 22 := by omega
      rcases hc with rfl | rfl | rfl | rfl | rfl | rfl | rfl | rfl | rfl | rfl | rfl | rfl | rfl | rfl | rfl | rfl | rfl | rfl | rfl | rfl | rfl | rfl | rfl
      · exact z_tabIn X (off := 108) (tgt := 148) dL_law_40 (by decide) (by decide) (by decide) (by decide) (zcs_idea hfl X Y hXs hbl hbA hq6 hLs hce hsl H hx hm ho K)
      · exact z_tabIn X (off := 164) (tgt := 204) dL_law_40 (by decide) (by decide) (by decide) (by decide) (zcs_entry hfl X Y hXs hbl hbA hq6 hLs hce hsl H hx hm ho K)
      · exact z_tabIn X (off := 268) (tgt := 308) dL_law_40 (by decide) (by decide) (by decide) (by decide) (zcs_candidates hfl X Y hXs hbl hbA hq6 hLs hce hsl H hx hm ho K)
      · exact z_tabIn X (off := 324) (tgt := 364) dL_law_40 (by decide) (by decide) (by decide) (by decide) (zcs_candidate hfl X Y hXs hbl hbA hq6 hLs hce hsl H hx hm ho K)
      · exact z_tabIn X (off := 392) (tgt := 432) dL_law_40 (by decide) (by decide) (by decide) (by decide) (zcs_office hfl X Y hXs hbl hbA hq6 hLs hce hsl H hx hm ho K)
      · exact z_tabIn X (off := 436) (tgt := 476) dL_law_40 (by decide) (by decide) (by decide) (by decide) (zcs_cable hfl X Y hXs hbl hbA hq6 hLs hce hsl H hx hm ho K)
      · exact z_tabIn X (off := 528) (tgt := 568) dL_law_40 (by decide) (by decide) (by decide) (by decide) (zcs_broken hfl X Y hXs hbl hbA hq6 hLs hce hsl H hx hm ho K)
      · exact z_tabIn X (off := 612) (tgt := 652) dL_law_40 (by decide) (by decide) (by decide) (by decide) (zcs_forbid hfl X Y hXs hbl hbA hq6 hLs hce hsl H hx hm ho K)
      · exact z_tabIn X (off := 703) (tgt := 743) dL_law_40 (by decide) (by decide) (by decide) (by decide) (zcs_key hfl X Y hXs hbl hbA hq6 hLs hce hsl H hx hm ho K)
      · exact z_tabIn X (off := 771) (tgt := 811) dL_law_40 (by decide) (by decide) (by decide) (by decide) (zcs_conference hfl X Y hXs hbl hbA hq6 hLs hce hsl H hx hm ho K)
      · exact z_tabIn X (off := 863) (tgt := 903) dL_law_40 (by decide) (by decide) (by decide) (by decide) (zcs_reserve hfl X Y hXs hbl hbA hq6 hLs hce hsl H hx hm ho K)
      · exact z_tabIn X (off := 931) (tgt := 971) dL_law_40 (by decide) (by decide) (by decide) (by decide) (zcs_draft hfl X Y hXs hbl hbA hq6 hLs hce hsl H hx hm ho K)
      · exact z_tabIn X (off := 987) (tgt := 1027) dL_law_40 (by decide) (by decide) (by decide) (by decide) (zcs_words hfl X Y hXs hbl hbA hq6 hLs hce hsl H hx hm ho K)
      · exact z_tabIn X (off := 1071) (tgt := 1111) dL_law_40 (by decide) (by decide) (by decide) (by decide) (zcs_send hfl X Y hXs hbl hbA hq6 hLs hce hsl H hx hm ho K)
      · exact z_tabIn X (off := 1179) (tgt := 1219) dL_law_40 (by decide) (by decide) (by decide) (by decide) (zcs_wrong hfl X Y hXs hbl hbA hq6 hLs hce hsl H hx hm ho K)
      · exact z_tabIn X (off := 1271) (tgt := 1311) dL_law_40 (by decide) (by decide) (by decide) (by decide) (zcs_pass hfl X Y hXs hbl hbA hq6 hLs hce hsl H hx hm ho K)
      · exact z_tabIn X (off := 1327) (tgt := 1367) dL_law_40 (by decide) (by decide) (by decide) (by decide) (zcs_rest hfl X Y hXs hbl hbA hq6 hLs hce hsl H hx hm ho K)
      · exact z_tabIn X (off := 1383) (tgt := 1423) dL_law_40 (by decide) (by decide) (by decide) (by decide) (zcs_ofMessage hfl X Y hXs hbl hbA hq6 hLs hce hsl H hx hm ho K)
      · exact z_tabIn X (off := 1451) (tgt := 1491) dL_law_40 (by decide) (by decide) (by decide) (by decide) (zcs_word hfl X Y hXs hbl hbA hq6 hLs hce hsl H hx hm ho K)
      · exact z_tabIn X (off := 1547) (tgt := 1587) dL_law_40 (by decide) (by decide) (by decide) (by decide) (zcs_read hfl X Y hXs hbl hbA hq6 hLs hce hsl H hx hm ho K)
      · exact z_tabIn X (off := 1615) (tgt := 1655) dL_law_40 (by decide) (by decide) (by decide) (by decide) (zcs_claim hfl X Y hXs hbl hbA hq6 hLs hce hsl H hx hm ho K)
      · exact z_tabIn X (off := 1671) (tgt := 1711) dL_law_40 (by decide) (by decide) (by decide) (by decide) (zcs_account hfl X Y hXs hbl hbA hq6 hLs hce hsl H hx hm ho K)
      · exact z_tabIn X (off := 1727) (tgt := 1767) dL_law_40 (by decide) (by decide) (by decide) (by decide) (zcs_accountAnew hfl X Y hXs hbl hbA hq6 hLs hce hsl H hx hm ho K)
    · exact z_tabOut X (tgt := 1823) dL_law_40 hj (by decide) (z_widen (by omega) (by omega) (K g σ H hx hm ho))
