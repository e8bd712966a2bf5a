/-! what is asked, told by the state -/
noncomputable def zthe (P : Int32 → Prop) : Int32 := Classical.epsilon P
theorem zthe_eq {P : Int32 → Prop} {r : Int32} (hu : ∀ a b, P a → P b → a = b) (h : P r) : r = zthe P ∧ P (zthe P) := by
  have := Classical.epsilon_spec (p := P) ⟨r, h⟩
  exact ⟨hu _ _ h this, this⟩
/-- an ask's end: the answer r, the state as it was -/
def zAs (a : Nat) (κ : zIn) (n : Nat → Nat) (r : Int32) : Option Value → zSh → zIn → Prop := fun v g' σ' => v = some (.int r) ∧ zSt g' σ' κ n ∧ g'.2.1 1 = a
def zok (κ : zIn) (n : Nat → Nat) (m : Nat) : Nat → Int32
  | 0 => κ (200 + m) 9
  | 1 => nI (n (100 + m))
  | 2 => κ (200 + m) 3
  | 3 => κ (200 + m) 4
  | 4 => zcab κ m
  | _ => if κ (200 + m) 9 = 2 then κ (200 + m) 10 else -1
theorem zfst_u {w v : Int32} {f f2 : Nat} (h1 : zfst w v f) (h2 : zfst w v f2) : f = f2 := by
  obtain ⟨a1, a2, a3⟩ := h1
  obtain ⟨b1, b2, b3⟩ := h2
  rcases Nat.lt_trichotomy f f2 with q | q | q
  · exact absurd (b2 f q) (a3 (by omega))
  · exact q
  · exact absurd (a2 f2 q) (b3 (by omega))
theorem zcl_u {σ : zIn} {m w : Nat} {r r2 : Int32} (h1 : zcl σ m w r) (h2 : zcl σ m w r2) : r = r2 := by
  rcases h1 with ⟨k, f, k1, k2, k3, k4, rfl⟩ | ⟨k1, rfl⟩
  · rcases h2 with ⟨j, f2, j1, j2, j3, j4, rfl⟩ | ⟨j1, rfl⟩
    · have e : k = j := by
        rcases Nat.lt_trichotomy k j with q | q | q
        · exact absurd (j2 k q) k3
        · exact q
        · exact absurd (k2 j q) j3
      subst e
      rw [zfst_u k4 j4]
    · exact absurd (j1 k k1) k3
  · rcases h2 with ⟨j, f2, j1, j2, j3, j4, rfl⟩ | ⟨j1, rfl⟩
    · exact absurd (k1 j j1) j3
    · rfl
theorem zcl_e {σ κ : zIn} {m w : Nat} {r : Int32} (e : ∀ k, k < w → σ (300 + m) k = κ (300 + m) k ∧ σ (400 + m) k = κ (400 + m) k) (h : zcl σ m w r) : zcl κ m w r := by
  rcases h with ⟨k, f, k1, k2, k3, k4, k5⟩ | ⟨k1, k2⟩
  · refine Or.inl ⟨k, f, k1, fun j hj => ?_, ?_, ?_, k5⟩
    · rw [← (e j (by omega)).1, ← (e j (by omega)).2]; exact k2 j hj
    · rw [← (e k k1).1, ← (e k k1).2]; exact k3
    · rw [← (e k k1).1, ← (e k k1).2]; exact k4
  · exact Or.inr ⟨fun k hk => by rw [← (e k hk).1, ← (e k hk).2]; exact k1 k hk, k2⟩
/-- an idea of a message, as it is read -/
def zrdP (κ : zIn) (n : Nat → Nat) (m p : Nat) (r : Int32) : Prop := ∃ me ql, zrdA κ (n 1) (zky κ (ztt κ m)) m (n (100 + m)) p me ql r
theorem zrdP_u {κ : zIn} {n : Nat → Nat} {m p : Nat} (hne : n 1 ≤ 40) : ∀ a b, zrdP κ n m p a → zrdP κ n m p b → a = b := by
  rintro a b ⟨me, ql, h1⟩ ⟨me2, ql2, h2⟩
  exact zrdA_u hne h1 h2
theorem zrdA_e {σ κ : zIn} {ne key m w p : Nat} {me : Nat → Int32} {ql : Nat → Nat} {r : Int32} (e4 : σ 4 = κ 4) (e5 : σ 5 = κ 5) (e : ∀ k, k < w → σ (400 + m) k = κ (400 + m) k) (h : zrdA σ ne key m w p me ql r) : zrdA κ ne key m w p me ql r := by
  have g1 : ∀ wd me q, zrd1 σ ne key wd me q → zrd1 κ ne key wd me q := fun wd me q h => by
    unfold zrd1 at *; rw [e4, e5] at h; exact h
  rcases h with ⟨h1, h2, h3⟩ | ⟨i, i1, i2, i3, i4, i5⟩
  · exact Or.inl ⟨h1, h2, fun i hi => by rw [← e i hi]; exact g1 _ _ _ (h3 i hi)⟩
  · refine Or.inr ⟨i, i1, fun j hj => by rw [← e j (by omega)]; exact g1 _ _ _ (i2 j hj), i3, i4, ?_⟩
    rw [i5, e i i1]
    unfold zrdr
    rw [e5]
/-- words that are paid -/
def zwpP (κ : zIn) (n : Nat → Nat) (o : Nat) (b : Bool) (r : Int32) : Prop := ∃ paid many L W, zWd κ n o b paid many L W ∧ r = nI paid
theorem zwpP_u {κ : zIn} {n : Nat → Nat} {o : Nat} {b : Bool} (HP : zPh (κ 5) (n 1)) : ∀ x y, zwpP κ n o b x → zwpP κ n o b y → x = y := by
  rintro x y ⟨p, m, L, W, h1, rfl⟩ ⟨p2, m2, L2, W2, h2, rfl⟩
  rw [(zWd_u HP h1 h2).1]
theorem zwd_in {w : Int32} (h : zwd w) : zx_cands w = 0 := by
  obtain ⟨W, hW, rfl⟩ := h
  unfold zx_cands
  refine if_neg (fun q => ?_)
  rcases q with q | q
  · exact nI_not_neg (by omega) q
  · have h1 : (nI 11881375) < nI W := q
    rw [nI_ltI (by omega) (by omega)] at h1
    omega
/-- a candidate -/
def zcaP (κ : zIn) (n : Nat → Nat) (w x r : Int32) : Prop := (zin x (zcnt (zP (κ 4) (n 1) w) (n 1)) = false ∧ r = -1) ∨ ∃ k, k < n 1 ∧ zP (κ 4) (n 1) w k ∧ x = nI (zcnt (zP (κ 4) (n 1) w) k) ∧ r = nI k
section
variable {l : Launch} {D : va_G} {cy : Nat → ClassId} {z0 : zRg} {g : zSh} {σ κ : zIn} {n : Nat → Nat}
theorem zin_l {j m : Nat} (h : j < m) (hm : m < 2 ^ 31) : zin (nI j) m = true := zin_nI h (by omega)
theorem tA_of (h : zSt g σ κ n) (m j : Nat) (hm : m < n 6) (hj : j < 6) : z_Cn (zc0 KX8_ofMessage) l D cy z0 KX8_ofMessage [.ref (g.2.1 1), .int (nI m), .int (nI j)] g σ (zAs (g.2.1 1) κ n (zok κ n m j)) := by
  have hn6 : n 6 ≤ 60 := h.M.1.2
  refine (nX8_ofMessage (nI m) (nI j) h.S h.G h.nm h.lg h.l24 ?_).toN.mono ?_
  · unfold zx_of
    rw [if_neg (fun q => q (zin_l hm (by omega))), if_neg (by rw [nI_toInt (by omega)]; omega)]
  · rintro v g' σ' ⟨-, rfl, rfl, m9, j9, h1, h2, h3, h4, rfl⟩
    have e1 : m = m9 := (nI_eq (by omega) (by omega)).mp h2
    have e2 : j = j9 := (nI_eq (by omega) (by omega)).mp h4
    subst e1; subst e2
    refine ⟨?_, h, rfl⟩
    rcases (show j = 0 ∨ j = 1 ∨ j = 2 ∨ j = 3 ∨ j = 4 ∨ j = 5 by omega) with rfl | rfl | rfl | rfl | rfl | rfl
    · show some (Value.int (σ' (200 + m) 9)) = some (.int (κ (200 + m) 9))
      rw [h.ms hm (by omega)]
    · show some (Value.int (nI (g'.2.2.2.1 (300 + m)))) = some (.int (nI (n (100 + m))))
      rw [show g'.2.2.2.1 (300 + m) = n (100 + m) from (h.2.1 m hm).1]
    · show some (Value.int (σ' (200 + m) 3)) = some (.int (κ (200 + m) 3))
      rw [h.ms hm (by omega)]
    · show some (Value.int (σ' (200 + m) 4)) = some (.int (κ (200 + m) 4))
      rw [h.ms hm (by omega)]
    · show some (Value.int (zcab σ' m)) = some (.int (zcab κ m))
      rw [h.cab hm]
    · show some (Value.int (if σ' (200 + m) 9 = 2 then σ' (200 + m) 10 else -1)) = some (.int (if κ (200 + m) 9 = 2 then κ (200 + m) 10 else -1))
      rw [h.ms hm (by omega), h.ms hm (by omega)]
theorem tA_word (h : zSt g σ κ n) (b : Bool) (m k : Nat) (hm : m < n 6) (hk : k < n (100 + m)) : z_Cn (zc0 KX8_word) l D cy z0 KX8_word [.ref (g.2.1 1), .int (nI m), .int (nI k), .int (zb b)] g σ (zAs (g.2.1 1) κ n (if b then κ (300 + m) k else κ (400 + m) k)) := by
  have hn6 : n 6 ≤ 60 := h.M.1.2
  have h24 := (h.M.2 m hm).2.2.1.2.1
  have el : g.2.2.2.1 (300 + m) = n (100 + m) := (h.2.1 m hm).1
  refine (nX8_word b (nI m) (nI k) h.S h.G h.nm h.l24 ?_).toN.mono ?_
  · unfold zx_word
    rw [zn_nI (by omega), el, if_pos ⟨zin_l hm (by omega), zin_l hk (by omega)⟩]
  · rintro v g' σ' ⟨-, rfl, rfl, m9, k9, h1, h2, h3, h4, rfl⟩
    have e1 : m = m9 := (nI_eq (by omega) (by omega)).mp h2
    subst e1
    rw [el] at h3
    have e2 : k = k9 := (nI_eq (by omega) (by omega)).mp h4
    subst e2
    refine ⟨?_, h, rfl⟩
    rw [h.at (inP_3 hm hk), h.at (inP_4 hm hk)]
theorem tA_claim (h : zSt g σ κ n) (m : Nat) (hm : m < n 6) : z_Cn (zc0 KX8_claim) l D cy z0 KX8_claim [.ref (g.2.1 1), .int (nI m)] g σ (fun v g' σ' => zAs (g.2.1 1) κ n (zthe (zcl κ m (n (100 + m)))) v g' σ' ∧ zcl κ m (n (100 + m)) (zthe (zcl κ m (n (100 + m))))) := by
  have hn6 : n 6 ≤ 60 := h.M.1.2
  refine (nX8_claim (nI m) h.S h.G h.nm h.l24 h.sn ?_).toN.mono ?_
  · unfold zx_in
    rw [if_pos (zin_l hm (by omega))]
  · rintro v g' σ' ⟨-, rfl, rfl, m9, r, h1, h2, rfl, h4⟩
    have e1 : m = m9 := (nI_eq (by omega) (by omega)).mp h2
    subst e1
    have el : g'.2.2.2.1 (300 + m) = n (100 + m) := (h.2.1 m hm).1
    rw [el] at h4
    have h5 := zthe_eq (fun a b => zcl_u) (zcl_e (fun k hk => h.w3 hm (by rw [el]; exact hk)) h4)
    exact ⟨⟨by rw [← h5.1], h, rfl⟩, h5.2⟩
theorem tA_read (h : zSt g σ κ n) (m p : Nat) (hm : m < n 6) (hp : p < 1000) : z_Cn (zc0 KX8_read) l D cy z0 KX8_read [.ref (g.2.1 1), .int (nI m), .int (nI p)] g σ (zAs (g.2.1 1) κ n (zthe (zrdP κ n m p))) := by
  have hn6 : n 6 ≤ 60 := h.M.1.2
  refine (nX8_read (tt := ztt κ) (nI m) (nI p) h.S h.O h.no h.G h.nm h.l24 h.ne h.A.2.1.2.1 h.wd h.keys h.to h.nw ?_).toN.mono ?_
  · unfold zx_read
    rw [if_neg (fun q => q ⟨zin_l hm (by omega), Int32.not_lt.mp (nI_not_neg (by omega))⟩)]
  · rintro v g' σ' ⟨-, rfl, hf, m9, p9, me, ql, r, h1, h2, h3, h4, rfl, h6⟩
    have e1 : m = m9 := (nI_eq (by omega) (by omega)).mp h2
    subst e1
    have e2 : p = p9 := (nI_eq (by omega) h4).mp h3
    subst e2
    have el : g'.2.2.2.1 (300 + m) = n (100 + m) := (h.2.1 m hm).1
    rw [el] at h6
    have h7 := zthe_eq (P := zrdP κ n m p) (zrdP_u h.A.2.1.2.1) ⟨me, ql, zrdA_e h.r4 h.r5 (fun k hk => (h.w3 hm (by rw [el]; exact hk)).2) h6⟩
    exact ⟨by rw [← h7.1], h.scr (zfo_P hf), rfl⟩
theorem tA_acc (h : zSt g σ κ n) (o : Nat) (ho : o < n 3) : z_Cn (zc0 KX8_account) l D cy z0 KX8_account [.ref (g.2.1 1), .int (nI o)] g σ (zAs (g.2.1 1) κ n (κ (100 + o) 3)) := by
  have hn3 : n 3 ≤ 8 := h.B.1.2.1
  refine (nX8_account (nI o) h.S h.O h.no ?_).toN.mono ?_
  · unfold zx_in
    rw [if_pos (zin_l ho (by omega))]
  · rintro v g' σ' ⟨-, rfl, rfl, o9, h1, h2, rfl⟩
    have e1 : o = o9 := (nI_eq (by omega) (by omega)).mp h2
    subst e1
    exact ⟨by rw [h.at (by unfold inP; omega)], h, rfl⟩
theorem tA_anew (h : zSt g σ κ n) (o : Nat) (ho : o < n 3) : z_Cn (zc0 KX8_accountAnew) l D cy z0 KX8_accountAnew [.ref (g.2.1 1), .int (nI o)] g σ (zAs (g.2.1 1) κ n (zbal κ n o)) := by
  have hn3 : n 3 ≤ 8 := h.B.1.2.1
  have hn6 : n 6 ≤ 60 := h.M.1.2
  have hn4 : n 4 ≤ 12 := h.B.1.2.2.2
  refine (nX8_accountAnew (ro := zro κ) (ad := zad κ) (fr := zfm κ) (nI o) h.S h.O h.no h.G h.nm h.C h.nc h.rro h.adm h.l8 h.fr ?_).toN.mono ?_
  · unfold zx_in
    rw [if_pos (zin_l ho (by omega))]
  · rintro v g' σ' ⟨-, rfl, rfl, o9, h1, h2, rfl⟩
    have e1 : o = o9 := (nI_eq (by omega) (by omega)).mp h2
    subst e1
    refine ⟨?_, h, rfl⟩
    congr 2
    refine zis_cg (fun m hm => ?_)
    have el : g'.2.2.2.1 (500 + m) = n (200 + m) := (h.2.1 m hm).2
    rw [el]
    refine zis_cg (fun k hk => ?_)
    have hr := ((h.M.2 m hm).2.1.2.2.1 k hk).2
    have ep : zpart σ' m (zro κ m k) = zpart κ m (zro κ m k) := by
      unfold zpart
      rw [h.ms hm (by omega), h.ms hm (by omega), h.at (show inP n (120 + zro κ m k) 2 by unfold inP; omega)]
    unfold zsh1
    rw [ep]
theorem tA_words (h : zSt g σ κ n) (o : Nat) (b : Bool) (ho : o < n 3) : z_Cn (zc0 KX8_words) l D cy z0 KX8_words [.ref (g.2.1 1), .int (nI o), .int (zb b)] g σ (fun v g' σ' => zAs (g.2.1 1) κ n (zthe (zwpP κ n o b)) v g' σ' ∧ zwpP κ n o b (zthe (zwpP κ n o b))) := by
  have hn3 : n 3 ≤ 8 := h.B.1.2.1
  refine (nX8_words (ky := zky κ) b (nI o) h.S h.O h.no h.U h.nu h.mi h.K.1.2.2.2 h.ru h.dr h.ne h.A.2.1.2.1 h.wd h.pu h.keys h.rq ?_).toN.mono ?_
  · unfold zx_in
    rw [if_pos (zin_l ho (by omega))]
  · rintro v g' σ' ⟨-, rfl, o9, j, pl, cd, vw, cdw, paid, many, L, h1, h2, h3, h4, h5, rfl⟩
    have e1 : o = o9 := (nI_eq (by omega) (by omega)).mp h2
    subst e1
    have hw := zWd_of h ho (fun i _ => rfl) h3 h4 h5
    have h7 := zthe_eq (P := zwpP κ n o b) (zwpP_u h.A.2.1.2.2.2.1) ⟨paid, many, L, _, hw, rfl⟩
    exact ⟨⟨by rw [← h7.1], h.scr (zFil_P h5.1), rfl⟩, h7.2⟩
theorem tA_cands (h : zSt g σ κ n) (w : Int32) (hw : zwd w) : z_Cn (zc0 KX8_candidates) l D cy z0 KX8_candidates [.ref (g.2.1 1), .int w] g σ (zAs (g.2.1 1) κ n (nI (zcnt (zP (κ 4) (n 1) w) (n 1)))) := by
  refine (nX8_candidates w h.S h.ne h.A.2.1.2.1 h.wd ?_).toN.mono ?_
  · exact zwd_in hw
  · rintro v g' σ' ⟨-, rfl, hf, rfl⟩
    exact ⟨by rw [h.r4], h.scr (zfo_P hf), rfl⟩
theorem tA_cand (h : zSt g σ κ n) (w : Int32) (p : Nat) (hw : zwd w) (hp : p < 1000) : z_Cn (zc0 KX8_candidate) l D cy z0 KX8_candidate [.ref (g.2.1 1), .int w, .int (nI p)] g σ (fun v g' σ' => ∃ r, zAs (g.2.1 1) κ n r v g' σ' ∧ zcaP κ n w (nI p) r) := by
  refine (nX8_candidate w (nI p) h.S h.ne h.A.2.1.2.1 h.wd ?_).toN.mono ?_
  · unfold zx_cand
    rw [if_neg (nI_not_neg (by omega))]
    have := zwd_in hw
    unfold zx_cands at this
    split at this
    · exact absurd this (by decide)
    · rename_i q; rw [if_neg q]
  · rintro v g' σ' ⟨-, rfl, hf, r, rfl, hr⟩
    rw [h.r4] at hr
    exact ⟨r, ⟨rfl, h.scr (zfo_P hf), rfl⟩, hr⟩
end
