/-! the packing, told from the state alone: what is paid, the pieces, the words; there is one -/
/-- the cut of the draft by rules pl cd vw and a key: W the words -/
def zCut (κ : zIn) (ne nd pl cd vw key : Nat) (b : Bool) (paid many : Nat) (L : List (Nat × Nat)) (W : Nat → Int32) : Prop :=
  ∃ cdw : Nat → Nat → Int32, (b = true → ∀ p m, p < nd → 1 ≤ m → m ≤ 4 → (p + m ≤ nd → zcode (κ 5) (κ 12) (κ 4) ne key vw p m (cdw p m)) ∧ (nd < p + m → cdw p m = -1)) ∧
  (paid, many) = (if b then zch (fun n => zLT 1000000000 nd (fun i => zup (zf κ 3 (zf κ 12 i)) cd) (fun p m => decide (cdw p m ≠ -1)) 0 n) cd (zsum (fun i => zup (zf κ 3 (zf κ 12 i)) pl) nd) nd else (zsum (fun i => zup (zf κ 3 (zf κ 12 i)) pl) nd, 0)) ∧
  L = zcut nd (zLT 1000000000 nd (fun i => zup (zf κ 3 (zf κ 12 i)) cd) (fun p m => decide (cdw p m ≠ -1))) (fun p m => decide (cdw p m ≠ -1)) 0 many ∧ (∀ i, i < L.length → W i = zwo cdw (zf κ 12) (L.getD i (0, 0))) ∧ L.length ≤ nd ∧ paid ≤ 480 ∧ many ≤ nd
theorem zLT_cg {B nd : Nat} {pl : Nat → Nat} {us us2 : Nat → Nat → Bool} (hu : ∀ p m, p < nd → 1 ≤ m → m ≤ 4 → us p m = us2 p m) : ∀ f p n, nd - p ≤ f → zLT B nd pl us p n = zLT B nd pl us2 p n := by
  intro f
  induction f with
  | zero => intro p n hf; rw [zLT_ge (by omega), zLT_ge (by omega)]
  | succ f ih =>
    intro p n hf
    rcases Nat.lt_or_ge p nd with h | h
    · rw [zLT_q h, zLT_q h, hu p 1 h (by decide) (by decide), hu p 2 h (by decide) (by decide), hu p 3 h (by decide) (by decide), hu p 4 h (by decide) (by decide), ih (p + 1) n (by omega), ih (p + 1) (n - 1) (by omega), ih (p + 2) (n - 1) (by omega), ih (p + 3) (n - 1) (by omega), ih (p + 4) (n - 1) (by omega)]
    · rw [zLT_ge h, zLT_ge h]
theorem zch_cg {T T2 : Nat → Nat} {cd pc : Nat} (h : ∀ n, T n = T2 n) : ∀ n, zch T cd pc n = zch T2 cd pc n := by
  have : T = T2 := funext h
  rw [this]; exact fun _ => rfl
theorem zcode_u {Ph D C : Nat → Int32} {ne key vw p m : Nat} {x y : Int32} (HU : ∀ j k, j < ne → k < ne → zmt Ph D j p m → zmt Ph D k p m → j = k) (h1 : zcode Ph D C ne key vw p m x) (h2 : zcode Ph D C ne key vw p m y) : x = y := by
  rcases h1 with ⟨k, k1, k2, k3, k4⟩ | ⟨k1, k2⟩
  · rcases h2 with ⟨j, j1, j2, j3, j4⟩ | ⟨j1, j2⟩
    · rw [HU k j k1 j1 k2 j2] at k4; rw [k4, j4]
    · exact absurd k3 (j1 k k1 k2)
  · rcases h2 with ⟨j, j1, j2, j3, j4⟩ | ⟨j1, j2⟩
    · exact absurd j3 (k1 j j1 j2)
    · rw [k2, j2]
theorem zCut_u {κ : zIn} {ne nd pl cd vw key : Nat} {b : Bool} {paid many paid2 many2 : Nat} {L L2 : List (Nat × Nat)} {W W2 : Nat → Int32} (HP : zPh (κ 5) ne) (h1 : zCut κ ne nd pl cd vw key b paid many L W) (h2 : zCut κ ne nd pl cd vw key b paid2 many2 L2 W2) :
    paid = paid2 ∧ many = many2 ∧ L = L2 ∧ ∀ i, i < L.length → W i = W2 i := by
  obtain ⟨c, a1, a2, a3, a4, a5, a6, a7⟩ := h1
  obtain ⟨d, b1, b2, b3, b4, b5, b6, b7⟩ := h2
  have HU := zPU_of (σ := κ) HP
  cases b with
  | false =>
    rw [if_neg (by decide)] at a2 b2
    cases a2; cases b2
    have e : L = L2 := by rw [a3, b3]; exact zcut_0 nd 0 (by omega)
    refine ⟨rfl, rfl, e, fun i hi => ?_⟩
    rw [a4 i hi, b4 i (by rw [← e]; exact hi), ← e]
    have h0 : (L.getD i (0, 0)).2 = 0 := by
      rw [a3] at hi ⊢
      exact zcut_nc nd 0 (by omega) i hi
    unfold zwo
    rw [if_pos h0, if_pos h0]
  | true =>
    have hcd : ∀ p m, p < nd → 1 ≤ m → m ≤ 4 → c p m = d p m := by
      intro p m hp h1 h2
      by_cases q : p + m ≤ nd
      · exact zcode_u (fun j k hj hk => HU p m j k hj hk h1 h2) ((a1 rfl p m hp h1 h2).1 q) ((b1 rfl p m hp h1 h2).1 q)
      · rw [(a1 rfl p m hp h1 h2).2 (by omega), (b1 rfl p m hp h1 h2).2 (by omega)]
    have hus : ∀ p m, p < nd → 1 ≤ m → m ≤ 4 → (fun p m => decide (c p m ≠ -1)) p m = (fun p m => decide (d p m ≠ -1)) p m := fun p m hp h1 h2 => by
      show decide (c p m ≠ -1) = decide (d p m ≠ -1)
      rw [hcd p m hp h1 h2]
    have hT := fun p n => zLT_cg (B := 1000000000) (pl := fun i => zup (zf κ 3 (zf κ 12 i)) cd) hus nd p n (by omega)
    have e : (paid, many) = (paid2, many2) := by
      rw [a2, b2, if_pos rfl, if_pos rfl]
      exact zch_cg (fun n => hT 0 n) nd
    obtain ⟨e1, e2⟩ := Prod.mk.inj e
    have e3 : L = L2 := by
      rw [a3, b3, ← e2]
      exact zcut_cg (fun p l k q1 q2 q3 q4 => ⟨hus p k q1 q3 q4, by rw [hT, hT]⟩) nd 0 many (by omega)
    refine ⟨e1, e2, e3, fun i hi => ?_⟩
    rw [a4 i hi, b4 i (by rw [← e3]; exact hi), ← e3]
    have hp : (L.getD i (0, 0)).1 < nd := by rw [a3] at hi ⊢; exact zcut_pl nd 0 many (by omega) i hi
    have hm : (L.getD i (0, 0)).2 ≤ 4 := by rw [a3] at hi ⊢; exact zcut_m4 nd 0 many (by omega) i hi
    unfold zwo
    by_cases q : (L.getD i (0, 0)).2 = 0
    · rw [if_pos q, if_pos q]
    · rw [if_neg q, if_neg q]; exact hcd _ _ hp (by omega) hm
theorem zlc_u2 {T : Nat → Nat → Nat} {us : Nat → Nat → Bool} {p left : Nat} : ∀ m, 0 < zlc T us p left m → us p (zlc T us p left m) = true
  | 0, h => absurd h (Nat.lt_irrefl 0)
  | m + 1, h => by
    simp only [zlc] at h ⊢
    split
    · next q => exact q.1
    · next q => rw [if_neg q] at h; exact zlc_u2 m h
theorem zcut_us {nd : Nat} {T : Nat → Nat → Nat} {us : Nat → Nat → Bool} : ∀ f p l, nd - p ≤ f → ∀ i, i < (zcut nd T us p l).length → ((zcut nd T us p l).getD i (0, 0)).2 ≠ 0 → us ((zcut nd T us p l).getD i (0, 0)).1 ((zcut nd T us p l).getD i (0, 0)).2 = true := by
  intro f
  induction f with
  | zero => intro p l hf i hi; rw [zcut_e (by omega)] at hi; exact absurd hi (Nat.not_lt_zero _)
  | succ f ih =>
    intro p l hf i hi
    rcases Nat.lt_or_ge p nd with hp | hp
    · rcases Nat.eq_zero_or_pos (zln T us p l) with q | q
      · rw [zcut_p hp q] at hi ⊢
        cases i with
        | zero => intro h; exact absurd rfl h
        | succ i => exact ih (p + 1) l (by omega) i (by simpa using hi)
      · rw [zcut_c hp q] at hi ⊢
        cases i with
        | zero =>
          intro _
          show us p (zln T us p l) = true
          have e : zln T us p l = zlc T us p l 4 := by
            unfold zln at q ⊢
            by_cases r : 0 < l
            · rw [if_pos r]
            · rw [if_neg r] at q; exact absurd q (Nat.lt_irrefl 0)
          rw [e]
          rw [e] at q
          exact zlc_u2 4 q
        | succ i => exact ih (p + zln T us p l) (l - 1) (by omega) i (by simpa using hi)
    · rw [zcut_e hp] at hi; exact absurd hi (Nat.not_lt_zero _)
theorem zsum_1 {f : Nat → Nat} : ∀ {n : Nat}, 0 < n → (∀ k, k < n → 1 ≤ f k) → 1 ≤ zsum f n
  | 0, h, _ => absurd h (Nat.lt_irrefl 0)
  | n + 1, _, h => by
    have := h n (by omega)
    show 1 ≤ zsum f n + f n
    omega
theorem zup_1 {a b : Nat} (ha : 1 ≤ a) (hb : 0 < b) : 1 ≤ zup a b := by
  unfold zup
  rw [Nat.le_div_iff_mul_le hb]; omega
theorem zch_1 {T0 : Nat → Nat} {cd pc : Nat} (hcd : 0 < cd) (hpc : 1 ≤ pc) : ∀ n, 1 ≤ (zch T0 cd pc n).1
  | 0 => hpc
  | n + 1 => by
    have h := zch_1 (T0 := T0) hcd hpc n
    have := zup_1 (a := 5 * (n + 1)) (b := cd) (by omega) hcd
    simp only [zch]
    split
    · show 1 ≤ T0 (n + 1) + zup (5 * (n + 1)) cd
      omega
    · exact h
/-- what the words are like -/
theorem zCut_ok {κ : zIn} {ni ne nd pl cd vw key : Nat} {b : Bool} {paid many : Nat} {L : List (Nat × Nat)} {W : Nat → Int32} (HA : zIA κ ni ne nd) (hpl : 5 ≤ pl) (hcd : 5 ≤ cd) (h : zCut κ ne nd pl cd vw key b paid many L W) :
    paid ≤ zsum (fun i => zup (zf κ 3 (zf κ 12 i)) pl) nd ∧ (b = false → paid = zsum (fun i => zup (zf κ 3 (zf κ 12 i)) pl) nd) ∧ (nd = 0 → paid = 0) ∧ (0 < nd → 1 ≤ paid ∧ 1 ≤ L.length) ∧ L.length ≤ nd ∧ paid ≤ 480 ∧
      (∀ i, i < L.length → (zwd (W i) ∧ b = true) ∨ ∃ p, p < nd ∧ W i = (-1) - nI (zf κ 12 p) - 1) ∧ (0 < many → ∃ i, i < L.length ∧ zwd (W i)) := by
  obtain ⟨c, a1, a2, a3, a4, a5, a6, a7⟩ := h
  obtain ⟨⟨i1, i2, i3⟩, ⟨j1, j2, j3, j4, j5⟩, k1, k2, k3⟩ := HA
  have hlt : ∀ i, i < nd → 1 ≤ zf κ 3 (zf κ 12 i) := fun i hi => (i3 _ (k3 i hi).2).2.1
  have hpc : 0 < nd → 1 ≤ zsum (fun i => zup (zf κ 3 (zf κ 12 i)) pl) nd := fun h0 => zsum_1 h0 (fun i hi => zup_1 (hlt i hi) (by omega))
  have hw : ∀ i, i < L.length → (zwd (W i) ∧ b = true ∧ (L.getD i (0, 0)).2 ≠ 0) ∨ ((L.getD i (0, 0)).2 = 0 ∧ ∃ p, p < nd ∧ W i = (-1) - nI (zf κ 12 p) - 1) := by
    intro i hi
    have hp : (L.getD i (0, 0)).1 < nd := by rw [a3] at hi ⊢; exact zcut_pl nd 0 many (by omega) i hi
    rw [a4 i hi]
    unfold zwo
    by_cases q : (L.getD i (0, 0)).2 = 0
    · rw [if_pos q]; exact Or.inr ⟨q, _, hp, rfl⟩
    · rw [if_neg q]
      have hb : b = true := by
        cases b with
        | true => rfl
        | false =>
          exfalso
          rw [if_neg Bool.false_ne_true] at a2
          cases a2
          rw [a3] at hi q
          exact q (zcut_nc nd 0 (by omega) i hi)
      have hm4 : (L.getD i (0, 0)).2 ≤ 4 := by rw [a3] at hi ⊢; exact zcut_m4 nd 0 many (by omega) i hi
      have hus : c (L.getD i (0, 0)).1 (L.getD i (0, 0)).2 ≠ -1 := by
        have gen := zcut_us (nd := nd) (T := zLT 1000000000 nd (fun i => zup (zf κ 3 (zf κ 12 i)) cd) (fun p m => decide (c p m ≠ -1))) (us := fun p m => decide (c p m ≠ -1)) nd 0 many (by omega)
        rw [a3] at hi q
        have := gen i hi q
        rw [← a3] at this
        exact of_decide_eq_true this
      refine Or.inl ⟨?_, hb, q⟩
      by_cases r : (L.getD i (0, 0)).1 + (L.getD i (0, 0)).2 ≤ nd
      · rcases (a1 hb _ _ hp (by omega) hm4).1 r with ⟨k, k1, k2, k3, k4⟩ | ⟨_, k2⟩
        · rw [k4]; exact j3 _ (Nat.mod_lt _ (by omega))
        · exact absurd k2 hus
      · exact absurd ((a1 hb _ _ hp (by omega) hm4).2 (by omega)) hus
  refine ⟨?_, ?_, ?_, fun h0 => ⟨?_, ?_⟩, a5, a6, fun i hi => ?_, fun hmany => ?_⟩
  · cases b with
    | false => rw [if_neg Bool.false_ne_true] at a2; cases a2; exact Nat.le_refl _
    | true => rw [if_pos rfl] at a2; rw [show paid = _ from congrArg Prod.fst a2]; exact (zch_le _).1
  · intro hb
    rw [hb, if_neg Bool.false_ne_true] at a2; cases a2; rfl
  · intro h0
    subst h0
    cases b with
    | false => rw [if_neg Bool.false_ne_true] at a2; cases a2; rfl
    | true => rw [if_pos rfl] at a2; cases a2; rfl
  · cases b with
    | false => rw [if_neg Bool.false_ne_true] at a2; cases a2; exact hpc h0
    | true => rw [if_pos rfl] at a2; rw [show paid = _ from congrArg Prod.fst a2]; exact zch_1 (by omega) (hpc h0) nd
  · rw [a3]
    rcases Nat.eq_zero_or_pos (zln (zLT 1000000000 nd (fun i => zup (zf κ 3 (zf κ 12 i)) cd) (fun p m => decide (c p m ≠ -1))) (fun p m => decide (c p m ≠ -1)) 0 many) with q | q
    · rw [zcut_p h0 q]; simp
    · rw [zcut_c h0 q]; simp
  · rcases hw i hi with ⟨q1, q2, _⟩ | ⟨_, q⟩
    · exact Or.inl ⟨q1, q2⟩
    · exact Or.inr q
  · have hb : b = true := by
      cases b with
      | true => rfl
      | false => rw [if_neg Bool.false_ne_true] at a2; cases a2; exact absurd hmany (Nat.lt_irrefl _)
    rw [hb, if_pos rfl] at a2
    have hfin := zch_fin (T := fun n => zLT 1000000000 nd (fun i => zup (zf κ 3 (zf κ 12 i)) cd) (fun p m => decide (c p m ≠ -1)) 0 n) (cd := cd) (pc := zsum (fun i => zup (zf κ 3 (zf κ 12 i)) pl) nd) nd
    rw [← a2] at hfin
    have hps : zsum (fun i => zup (zf κ 3 (zf κ 12 i)) pl) nd ≤ 480 := by
      have := zsum_le (f := fun i => zup (zf κ 3 (zf κ 12 i)) pl) (c := 20) (n := nd) (fun i hi => by
        obtain ⟨d3, d4, d5⟩ := i3 _ (k3 i hi).2
        have := zup_le (a := zf κ 3 (zf κ 12 i)) (b := pl) (by omega) d4
        omega)
      omega
    rcases hfin with r | r
    · exact absurd r (by show ¬ many = 0; omega)
    · obtain ⟨i, i1, i2⟩ := zcut_hc (B := 1000000000) (nd := nd) (pl := fun i => zup (zf κ 3 (zf κ 12 i)) cd) (us := fun p m => decide (c p m ≠ -1)) nd 0 many (by omega) hmany (Nat.lt_of_lt_of_le r (by omega))
      rw [← a3] at i1 i2
      rcases hw i i1 with ⟨q1, _, _⟩ | ⟨q, _⟩
      · exact ⟨i, i1, q1⟩
      · exact absurd q i2
/-! the rules that count -/
theorem zrat_u {σ : zIn} {dy : Nat → Nat} {day nr o j j2 : Nat} (h1 : zrat σ dy day nr o j) (h2 : zrat σ dy day nr o j2) : j = j2 := by
  rcases h1 with ⟨k, k1, k2, k3, k4⟩ | ⟨k1, k2⟩
  · rcases h2 with ⟨l, l1, l2, l3, l4⟩ | ⟨l1, l2⟩
    · rcases Nat.lt_trichotomy k l with q | q | q
      · exact absurd l3 (k4 l l1 q)
      · omega
      · exact absurd k3 (l4 k k1 q)
    · exact absurd k3 (l2 k k1)
  · rcases h2 with ⟨l, l1, l2, l3, l4⟩ | ⟨l1, l2⟩
    · exact absurd l3 (k2 l l1)
    · omega
theorem zrat_e {σ τ : zIn} {dy : Nat → Nat} {day nr o j : Nat} (e : ∀ k, τ (110 + o) k = σ (110 + o) k) (h : zrat σ dy day nr o j) : zrat τ dy day nr o j := by
  unfold zrat zrc at *
  simp only [e]; exact h
/-- what an office's words are for the draft -/
def zWd (κ : zIn) (n : Nat → Nat) (o : Nat) (b : Bool) (paid many : Nat) (L : List (Nat × Nat)) (W : Nat → Int32) : Prop :=
  ∃ j, zrat κ (zdy κ) (n 7 / 1440) (n 5) o j ∧ zCut κ (n 1) (n 2) (zpl κ j) (zcd κ j) (zvo κ j) (zky κ o) b paid many L W
theorem zWd_u {κ : zIn} {n : Nat → Nat} {o : Nat} {b : Bool} {paid many paid2 many2 : Nat} {L L2 : List (Nat × Nat)} {W W2 : Nat → Int32} (HP : zPh (κ 5) (n 1)) (h1 : zWd κ n o b paid many L W) (h2 : zWd κ n o b paid2 many2 L2 W2) : paid = paid2 ∧ many = many2 ∧ L = L2 ∧ ∀ i, i < L.length → W i = W2 i := by
  obtain ⟨j, a1, a2⟩ := h1
  obtain ⟨j2, b1, b2⟩ := h2
  rw [zrat_u b1 a1] at b2
  exact zCut_u HP a2 b2
theorem zrat_jr {σ : zIn} {dy : Nat → Nat} {day nr o j : Nat} (h : zrat σ dy day nr o j) : j = 18 ∨ ∃ k, k < nr ∧ j = 140 + k := by
  rcases h with ⟨k, k1, k2, k3, k4⟩ | ⟨k1, k2⟩
  · exact Or.inr ⟨k, k1, k2⟩
  · exact Or.inl k1
/-- out of the contract's words -/
theorem zWd_of {g : zSh} {σ σ1 s2 κ : zIn} {n : Nat → Nat} {o j pl cd vw : Nat} {b : Bool} {cdw : Nat → Nat → Int32} {paid many : Nat} {L : List (Nat × Nat)} (h : zSt g σ κ n) (ho : o < n 3) (e : ∀ i, (i ≠ 13 ∧ i ≠ 16 ∧ i ≠ 17) → σ1 i = σ i)
    (hr : zrat σ1 (zdy κ) (n 7 / 1440) (n 5) o j) (hl : zRl σ1 j pl cd vw) (hF : zFil σ1 s2 (n 1) (n 0) (n 2) (zf κ 3) (zf κ 12) pl cd vw (zky κ o) b cdw paid many L) : zWd κ n o b paid many L (s2 10) := by
  have hn3 : n 3 ≤ 8 := h.B.1.2.1
  have hn5 : n 5 ≤ 12 := h.K.1.2.1
  have hr2 : zrat κ (zdy κ) (n 7 / 1440) (n 5) o j := zrat_e (fun k => by rw [e (110 + o) (by omega)]; exact (h.at (by unfold inP; omega)).symm) hr
  have hj := zrat_jr hr
  have hj2 : ∀ k, k ≤ 4 → σ1 j k = κ j k := fun k hk => by
    rw [e j (by rcases hj with q | ⟨q, q1, q2⟩ <;> omega)]
    exact h.at (by unfold inP; rcases hj with q | ⟨q, q1, q2⟩ <;> omega)
  unfold zRl at hl
  rw [hj2 2 (by decide), hj2 3 (by decide), hj2 4 (by decide)] at hl
  obtain ⟨l1, l2, l3, l4, l5, l6, l7, l8⟩ := hl
  have e1 : pl = zpl κ j := by unfold zpl; rw [l1, zn_nI (by omega)]
  have e2 : cd = zcd κ j := by unfold zcd; rw [l4, zn_nI (by omega)]
  have e3 : vw = zvo κ j := by unfold zvo; rw [l7, zn_nI (by omega)]
  obtain ⟨f1, f2, f3, f4, f5, f6, f7, f8, f9, f10, f11⟩ := hF
  rw [e 5 (by decide), e 12 (by decide), e 4 (by decide), h.r5, h.r12, h.r4] at f2
  subst e1; subst e2; subst e3
  exact ⟨j, hr2, cdw, f2, f3, f4, f8, f9, f10, f11⟩
theorem zWd_ok {g : zSh} {σ κ : zIn} {n : Nat → Nat} {o : Nat} {b : Bool} {paid many : Nat} {L : List (Nat × Nat)} {W : Nat → Int32} (h : zSt g σ κ n) (hw : zWd κ n o b paid many L W) :
    (∀ paid2 many2 L2 W2, zWd κ n o false paid2 many2 L2 W2 → paid ≤ paid2) ∧ (n 2 = 0 → paid = 0) ∧ (0 < n 2 → 1 ≤ paid ∧ 1 ≤ L.length) ∧ L.length ≤ n 2 ∧ paid ≤ 480 ∧
      (∀ i, i < L.length → (zwd (W i) ∧ b = true) ∨ ∃ p, p < n 2 ∧ W i = (-1) - nI (zf κ 12 p) - 1) ∧ (0 < many → ∃ i, i < L.length ∧ zwd (W i)) := by
  obtain ⟨j, a1, a2⟩ := hw
  have hl := h.K.2.2.1 j (zrat_jr a1)
  obtain ⟨q1, q2, q3, q4, q5, q6, q7, q8⟩ := zCut_ok h.A hl.2.1 hl.2.2.2.2.1 a2
  refine ⟨fun paid2 many2 L2 W2 hw2 => ?_, q3, q4, q5, q6, q7, q8⟩
  obtain ⟨j2, b1, b2⟩ := hw2
  rw [zrat_u b1 a1] at b2
  have r := zCut_ok h.A hl.2.1 hl.2.2.2.2.1 b2
  rw [r.2.1 rfl]; exact q1
