/-! what both tell is one; calls that are refused; the same call to both -/
theorem zdet1 {a : Int32} {b : zIn} {c : Nat → Nat} : zDet (fun r κ' n' => r = a ∧ κ' = b ∧ n' = c) := by
  rintro _ _ _ _ _ _ ⟨rfl, rfl, rfl⟩ ⟨rfl, rfl, rfl⟩
  exact ⟨rfl, rfl, rfl⟩
theorem zcd_O : zcd9 zIO = -2000000001 := if_pos rfl
theorem zcd_X : zcd9 zIX = -2000000002 := (if_neg (by decide)).trans (if_pos rfl)
theorem zcd_Y : zcd9 zIY = -2000000003 := (if_neg (by decide)).trans (if_neg (by decide))
section
variable {κ : zIn} {n : Nat → Nat}
theorem zd_idea (x : Int32) : zDet (zk_idea κ n x) := zRk_det (fun _ => zdet1)
theorem zd_entry (w a b c d : Int32) : zDet (zk_entry κ n w a b c d) := zRk_det (fun _ => zdet1)
theorem zd_cands (w : Int32) : zDet (zk_cands κ n w) := zRk_det (fun _ => zdet1)
theorem zd_office : zDet (zk_office κ n) := zRk_det (fun _ => zdet1)
theorem zd_cable (a b c d : Int32) : zDet (zk_cable κ n a b c d) := zRk_det (fun _ => zdet1)
theorem zd_conf (a b c d : Int32) : zDet (zk_conf κ n a b c d) := zRk_det (fun _ => zdet1)
theorem zd_draft (x : Int32) : zDet (zk_draft κ n x) := zRk_det (fun _ => zdet1)
theorem zd_broken (hv : zIv κ n) (x y : Int32) : zDet (zk_broken κ n x y) := by
  have hn4 : n 4 ≤ 12 := hv.2.1.1.2.2.2
  refine zRk_det (fun _ => ?_)
  rintro _ _ _ _ _ _ ⟨c, hc, rfl, rfl, rfl, rfl⟩ ⟨c2, hc2, e, rfl, rfl, rfl⟩
  have : c = c2 := (nI_eq (by omega) (by omega)).mp e
  subst this
  exact ⟨rfl, rfl, rfl⟩
theorem zd_forbid (hv : zIv κ n) (x y : Int32) : zDet (zk_forbid κ n x y) := by
  have hn3 : n 3 ≤ 8 := hv.2.1.1.2.1
  refine zRk_det (fun _ => ?_)
  rintro _ _ _ _ _ _ ⟨c, hc, rfl, rfl, rfl, rfl⟩ ⟨c2, hc2, e, rfl, rfl, rfl⟩
  have : c = c2 := (nI_eq (by omega) (by omega)).mp e
  subst this
  exact ⟨rfl, rfl, rfl⟩
theorem zd_key (hv : zIv κ n) (x y : Int32) : zDet (zk_key κ n x y) := by
  have hn3 : n 3 ≤ 8 := hv.2.1.1.2.1
  refine zRk_det (fun _ => ?_)
  rintro _ _ _ _ _ _ ⟨c, hc, rfl, rfl, rfl, -, rfl⟩ ⟨c2, hc2, e, rfl, rfl, -, rfl⟩
  have : c = c2 := (nI_eq (by omega) (by omega)).mp e
  subst this
  exact ⟨rfl, rfl, rfl⟩
theorem zd_reserve (hv : zIv κ n) (x y : Int32) : zDet (zk_reserve κ n x y) := by
  have hn3 : n 3 ≤ 8 := hv.2.1.1.2.1
  have hn5 : n 5 ≤ 12 := hv.2.2.1.1.2.1
  refine zRk_det (fun _ => ?_)
  rintro _ _ _ _ _ _ ⟨o, k, j, ho, rfl, hk, hk2, rfl, rfl, hj, rfl, rfl⟩ ⟨o2, k2, j2, ho2, e, hk3, hk4, e2, rfl, hj2, rfl, rfl⟩
  have q1 : o = o2 := (nI_eq (by omega) (by omega)).mp e
  have q2 : k = k2 := (nI_eq (by omega) (by omega)).mp e2
  subst q1; subst q2
  rw [zrat_u hj hj2]
  exact ⟨rfl, rfl, rfl⟩
theorem zd_rest (x : Int32) : zDet (zk_rest κ n x) := by
  refine zRk_det (fun _ => ?_)
  rintro _ _ _ _ _ _ ⟨rfl, -, rfl, rfl⟩ ⟨rfl, -, rfl, rfl⟩
  exact ⟨rfl, rfl, rfl⟩
theorem zd_pass (x : Int32) : zDet (zk_pass κ n x) := by
  refine zRk_det (fun _ => ?_)
  rintro _ _ _ _ _ _ ⟨j, rfl, h1, h2, -, rfl, rfl, rfl⟩ ⟨j2, e, h3, h4, -, rfl, rfl, rfl⟩
  have q1 : j = j2 := (nI_eq (by omega) (by omega)).mp e
  subst q1
  exact ⟨rfl, rfl, rfl⟩
theorem zd_wrong (hv : zIv κ n) (x y a b : Int32) : zDet (zk_wrong κ n x y a b) := by
  have hn6 : n 6 ≤ 60 := hv.2.2.2.1.1.2
  refine zRk_det (fun _ => ?_)
  rintro _ _ _ _ _ _ ⟨m, k, q, t, W, hm, rfl, hk, rfl, hq, rfl, ht, rfl, hW, hw, rfl, rfl, rfl⟩ ⟨m2, k2, q2, t2, W2, hm2, e1, hk2, e2, hq2, e3, ht2, e4, hW2, hw2, rfl, rfl, rfl⟩
  have r1 : m = m2 := (nI_eq (by omega) (by omega)).mp e1
  subst r1
  have h24 := (hv.2.2.2.1.2 m hm).2.2.1.2.1
  have r2 : k = k2 := (nI_eq (by omega) (by omega)).mp e2
  have r3 : q = q2 := (nI_eq (by omega) (by omega)).mp e3
  have r4 : t = t2 := (nI_eq (by omega) (by omega)).mp e4
  subst r2; subst r3; subst r4
  rw [hw] at hw2
  have r5 : W = W2 := (nI_eq (by omega) (by omega)).mp hw2
  subst r5
  exact ⟨rfl, rfl, rfl⟩
theorem zWz_u {L : List (Nat × Nat)} {W W2 : Nat → Int32} (h : ∀ i, i < L.length → W i = W2 i) : zWz L W = zWz L W2 := by
  funext k
  unfold zWz
  by_cases q : k < L.length
  · rw [if_pos q, if_pos q, h k q]
  · rw [if_neg q, if_neg q]
theorem zd_send (hv : zIv κ n) (b : Bool) (xa xb xk : Int32) : zDet (zk_send κ n b xa xb xk) := by
  have hn3 : n 3 ≤ 8 := hv.2.1.1.2.1
  refine zRk_det (fun _ => ?_)
  rintro _ _ _ _ _ _ ⟨fm, to, l, paid, many, L, W, h1, rfl, h2, rfl, h3, h4, h5, h6, h7, h8, h9, h10, h11, rfl, rfl, rfl⟩ ⟨fm2, to2, l2, paid2, many2, L2, W2, g1, e1, g2, e2, g3, g4, g5, g6, g7, g8, g9, g10, g11, rfl, rfl, rfl⟩
  have r1 : fm = fm2 := (nI_eq (by omega) (by omega)).mp e1
  have r2 : to = to2 := (nI_eq (by omega) (by omega)).mp e2
  subst r1; subst r2
  have r3 : l = l2 := zpath_one h7 g7
  subst r3
  obtain ⟨r4, r5, r6, r7⟩ := zWd_u hv.1.2.1.2.2.2.1 h11 g11
  subst r4; subst r5; subst r6
  rw [zWz_u r7]
  exact ⟨rfl, rfl, rfl⟩
end
section
variable {l : Launch} {D : va_G} {cy : Nat → ClassId} {z0 : zRg} {g : zSh} {σ κ : zIn} {n : Nat → Nat}
/-- a call that is refused whatever it asks -/
theorem tC_no {nms : List String} {k : Nat} {ok : zRl9} {M : zM} {av : List Value} {P : Option Value → zSh → zIn → Prop} {X : String → zSh → zIn → Prop} (h : zSt g σ κ n) (hn : ∀ e ∈ nms, e = zIO ∨ e = zIX ∨ e = zIY) (hk : k ≠ 0) (hc : z_Cx l D cy z0 M av g σ P X) (hP : ∀ v g' σ', P v g' σ' → k = 0) (hX : ∀ E g' σ', X E g' σ' → zXk nms k E ∧ g' = g ∧ σ' = σ) : z_Cx l D cy z0 M av g σ (zRs (g.2.1 1) (zRk nms k κ n ok)) (zRx (g.2.1 1) (zRk nms k κ n ok) κ n) := by
  refine z_Cx.mono hc (fun v g' σ' q => absurd (hP v g' σ' q) hk) ?_
  intro E g' σ' q
  obtain ⟨q1, q2, q3⟩ := hX E g' σ' q
  subst q3
  exact zRx_of hn h q1 q2
def zno0 : zRl9 := fun _ _ _ => False
theorem tD_cand (hfl : l.stackTraces = false) (h : zSt g σ κ n) (w x : Int32) (hk : zx_cand w x ≠ 0) : z_Cx l D cy z0 NX8_candidate [.ref (g.2.1 1), .int w, .int x] g σ (zRs (g.2.1 1) (zRk [zIO, zIX] (zx_cand w x) κ n zno0)) (zRx (g.2.1 1) (zRk [zIO, zIX] (zx_cand w x) κ n zno0) κ n) :=
  tC_no h (by decide) hk (tX8_candidate hfl w x h.S h.ne h.A.2.1.2.1 h.wd) (fun v g' σ' q => q.1) (fun E g' σ' q => q)
theorem tD_words (hfl : l.stackTraces = false) (h : zSt g σ κ n) (b : Bool) (x : Int32) (hk : zx_in (n 3) x ≠ 0) : z_Cx l D cy z0 NX8_words [.ref (g.2.1 1), .int x, .int (zb b)] g σ (zRs (g.2.1 1) (zRk [zIO] (zx_in (n 3) x) κ n zno0)) (zRx (g.2.1 1) (zRk [zIO] (zx_in (n 3) x) κ n zno0) κ n) :=
  tC_no h (by decide) hk (tX8_words (ky := zky κ) hfl b x h.S h.O h.no h.U h.nu h.mi h.K.1.2.2.2 h.ru h.dr h.ne h.A.2.1.2.1 h.wd h.pu h.keys h.rq) (fun v g' σ' q => q.1) (fun E g' σ' q => q)
theorem tD_of (hfl : l.stackTraces = false) (h : zSt g σ κ n) (x y : Int32) (hk : zx_of (n 6) x y ≠ 0) : z_Cx l D cy z0 NX8_ofMessage [.ref (g.2.1 1), .int x, .int y] g σ (zRs (g.2.1 1) (zRk [zIO, zIX] (zx_of (n 6) x y) κ n zno0)) (zRx (g.2.1 1) (zRk [zIO, zIX] (zx_of (n 6) x y) κ n zno0) κ n) :=
  tC_no h (by decide) hk (tX8_ofMessage hfl x y h.S h.G h.nm h.lg h.l24) (fun v g' σ' q => q.1) (fun E g' σ' q => q)
theorem tD_word (hfl : l.stackTraces = false) (h : zSt g σ κ n) (b : Bool) (x y : Int32) (hk : zin x (n 6) = false) : z_Cx l D cy z0 NX8_word [.ref (g.2.1 1), .int x, .int y, .int (zb b)] g σ (zRs (g.2.1 1) (zRk [zIO] 1 κ n zno0)) (zRx (g.2.1 1) (zRk [zIO] 1 κ n zno0) κ n) := by
  have e : zx_word g (n 6) x y = 1 := if_neg (fun q => by rw [hk] at q; exact absurd q.1 (by decide))
  refine tC_no h (by decide) (by decide) (tX8_word hfl b x y h.S h.G h.nm h.l24) (fun v g' σ' q => ?_) (fun E g' σ' q => ?_)
  · rw [e] at q; exact q.1
  · rw [e] at q; exact q
theorem tD_read (hfl : l.stackTraces = false) (h : zSt g σ κ n) (x y : Int32) (hk : zx_read (n 6) x y ≠ 0) : z_Cx l D cy z0 NX8_read [.ref (g.2.1 1), .int x, .int y] g σ (zRs (g.2.1 1) (zRk [zIO] (zx_read (n 6) x y) κ n zno0)) (zRx (g.2.1 1) (zRk [zIO] (zx_read (n 6) x y) κ n zno0) κ n) :=
  tC_no h (by decide) hk (tX8_read (tt := ztt κ) hfl x y h.S h.O h.no h.G h.nm h.l24 h.ne h.A.2.1.2.1 h.wd h.keys h.to h.nw) (fun v g' σ' q => q.1) (fun E g' σ' q => q)
theorem tD_claim (hfl : l.stackTraces = false) (h : zSt g σ κ n) (x : Int32) (hk : zx_in (n 6) x ≠ 0) : z_Cx l D cy z0 NX8_claim [.ref (g.2.1 1), .int x] g σ (zRs (g.2.1 1) (zRk [zIO] (zx_in (n 6) x) κ n zno0)) (zRx (g.2.1 1) (zRk [zIO] (zx_in (n 6) x) κ n zno0) κ n) :=
  tC_no h (by decide) hk (tX8_claim hfl x h.S h.G h.nm h.l24 h.sn) (fun v g' σ' q => q.1) (fun E g' σ' q => q)
theorem tD_acc (hfl : l.stackTraces = false) (h : zSt g σ κ n) (x : Int32) (hk : zx_in (n 3) x ≠ 0) : z_Cx l D cy z0 NX8_account [.ref (g.2.1 1), .int x] g σ (zRs (g.2.1 1) (zRk [zIO] (zx_in (n 3) x) κ n zno0)) (zRx (g.2.1 1) (zRk [zIO] (zx_in (n 3) x) κ n zno0) κ n) :=
  tC_no h (by decide) hk (tX8_account hfl x h.S h.O h.no) (fun v g' σ' q => q.1) (fun E g' σ' q => q)
theorem tD_anew (hfl : l.stackTraces = false) (h : zSt g σ κ n) (x : Int32) (hk : zx_in (n 3) x ≠ 0) : z_Cx l D cy z0 NX8_accountAnew [.ref (g.2.1 1), .int x] g σ (zRs (g.2.1 1) (zRk [zIO] (zx_in (n 3) x) κ n zno0)) (zRx (g.2.1 1) (zRk [zIO] (zx_in (n 3) x) κ n zno0) κ n) :=
  tC_no h (by decide) hk (tX8_accountAnew (ro := zro κ) (ad := zad κ) (fr := zfm κ) hfl x h.S h.O h.no h.G h.nm h.C h.nc h.rro h.adm h.l8 h.fr) (fun v g' σ' q => q.1) (fun E g' σ' q => q)
end
