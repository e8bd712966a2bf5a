/-! the packing of both sides is the same -/
def z2 (c a b : Nat) : Prop := (a = 1000000000 ∧ b = 1000000) ∨ (a = b ∧ a ≤ c)
def z3 (c a b : Nat) : Prop := (1000000000 ≤ a ∧ 1000000 ≤ b) ∨ (a = b ∧ a ≤ c)
theorem z3_min {c a b a2 b2 : Nat} (hc : c < 1000000) (h : z3 c a b) (h2 : z3 c a2 b2) : z3 c (min a a2) (min b b2) := by
  unfold z3 at *; omega
theorem z3_of {c c2 a b d : Nat} (h : z2 c a b) (hd : c + d ≤ c2) : z3 c2 (d + a) (d + b) := by
  unfold z3 z2 at *; omega
theorem z2_eq {c a b c2 a2 b2 : Nat} (hc : c < 1000000) (hc2 : c2 < 1000000) (h : z2 c a b) (h2 : z2 c2 a2 b2) : a2 = a ↔ b2 = b := by
  unfold z2 at *; omega
theorem zLT_q {B nd : Nat} {pl : Nat → Nat} {us : Nat → Nat → Bool} {p n : Nat} (h : p < nd) : zLT B nd pl us p n = min B (min (min (min (min (pl p + zLT B nd pl us (p + 1) n) (if us p 1 && decide (0 < n) then zLT B nd pl us (p + 1) (n - 1) else B)) (if us p 2 && decide (0 < n) then zLT B nd pl us (p + 2) (n - 1) else B)) (if us p 3 && decide (0 < n) then zLT B nd pl us (p + 3) (n - 1) else B)) (if us p 4 && decide (0 < n) then zLT B nd pl us (p + 4) (n - 1) else B)) := by
  conv => lhs; rw [zLT]
  rw [dif_pos h]
theorem zLT_two {nd : Nat} {pl : Nat → Nat} {us us2 : Nat → Nat → Bool} (hn : nd ≤ 24) (hp : ∀ p, p < nd → pl p ≤ 20) (hu : ∀ p m, p < nd → 1 ≤ m → m ≤ 4 → us p m = us2 p m) : ∀ f p n, nd - p ≤ f → z2 (20 * (nd - p)) (zLT 1000000000 nd pl us p n) (zLT 1000000 nd pl us2 p n) := by
  intro f
  induction f with
  | zero =>
    intro p n hf
    rw [zLT_ge (by omega), zLT_ge (by omega)]
    unfold z2
    split <;> omega
  | succ f ih =>
    intro p n hf
    rcases Nat.lt_or_ge p nd with h | h
    · have key : ∀ m, 1 ≤ m → m ≤ 4 → z3 (20 * (nd - p)) (if us p m && decide (0 < n) then zLT 1000000000 nd pl us (p + m) (n - 1) else 1000000000) (if us2 p m && decide (0 < n) then zLT 1000000 nd pl us2 (p + m) (n - 1) else 1000000) := by
        intro m h1 h2
        rw [hu p m h h1 h2]
        split
        · have := z3_of (d := 0) (c2 := 20 * (nd - p)) (ih (p + m) (n - 1) (by omega)) (by omega)
          rw [Nat.zero_add, Nat.zero_add] at this
          exact this
        · exact Or.inl ⟨Nat.le_refl _, Nat.le_refl _⟩
      have hc : 20 * (nd - p) < 1000000 := by omega
      have k0 := z3_of (d := pl p) (c2 := 20 * (nd - p)) (ih (p + 1) n (by omega)) (by have := hp p h; omega)
      have k := z3_min hc (z3_min hc (z3_min hc (z3_min hc k0 (key 1 (by omega) (by omega))) (key 2 (by omega) (by omega))) (key 3 (by omega) (by omega))) (key 4 (by omega) (by omega))
      rw [zLT_q h, zLT_q h]
      generalize (min (min (min (min (pl p + zLT 1000000000 nd pl us (p + 1) n) _) _) _) _) = A at k ⊢
      generalize (min (min (min (min (pl p + zLT 1000000 nd pl us2 (p + 1) n) _) _) _) _) = B at k ⊢
      unfold z2 z3 at *
      omega
    · rw [zLT_ge h, zLT_ge h]
      unfold z2
      split <;> omega
theorem zch_two {T T2 : Nat → Nat} {cd pc c : Nat} (hc : c < 1000000) (hpc : pc < 1000000) (h : ∀ n, z2 c (T n) (T2 n)) : ∀ n, zch T cd pc n = zch T2 cd pc n
  | 0 => rfl
  | n + 1 => by
    have e := zch_two (cd := cd) hc hpc h n
    have l := (zch_le (T0 := T2) (cd := cd) (pc := pc) n).1
    show (if T (n + 1) + zup (5 * (n + 1)) cd < (zch T cd pc n).1 then (T (n + 1) + zup (5 * (n + 1)) cd, n + 1) else zch T cd pc n) = (if T2 (n + 1) + zup (5 * (n + 1)) cd < (zch T2 cd pc n).1 then (T2 (n + 1) + zup (5 * (n + 1)) cd, n + 1) else zch T2 cd pc n)
    rw [e]
    rcases h (n + 1) with ⟨a, b⟩ | ⟨a, b⟩
    · rw [if_neg (by omega), if_neg (by omega)]
    · rw [a]
theorem zch_more {T : Nat → Nat} {cd pc nd : Nat} (hpc : pc < 1000000) (h : ∀ n, nd < n → T n = 1000000) : ∀ k, zch T cd pc (nd + k) = zch T cd pc nd
  | 0 => rfl
  | k + 1 => by
    have l := (zch_le (T0 := T) (cd := cd) (pc := pc) (nd + k)).1
    show (if T (nd + k + 1) + zup (5 * (nd + k + 1)) cd < (zch T cd pc (nd + k)).1 then (T (nd + k + 1) + zup (5 * (nd + k + 1)) cd, nd + k + 1) else zch T cd pc (nd + k)) = _
    rw [h _ (by omega), if_neg (by omega)]
    exact zch_more hpc h k
theorem zch_none {T : Nat → Nat} {cd pc : Nat} (hpc : pc < 1000000) (h : ∀ n, 0 < n → T n = 1000000) (n : Nat) : zch T cd pc n = (pc, 0) := by
  have := zch_more (T := T) (cd := cd) (pc := pc) (nd := 0) hpc h n
  rw [Nat.zero_add] at this
  exact this
theorem zlc_cg {T T2 : Nat → Nat → Nat} {us us2 : Nat → Nat → Bool} {p l : Nat} : ∀ m, (∀ k, 1 ≤ k → k ≤ m → us p k = us2 p k ∧ (T (p + k) (l - 1) = T p l ↔ T2 (p + k) (l - 1) = T2 p l)) → zlc T us p l m = zlc T2 us2 p l m
  | 0, _ => rfl
  | m + 1, h => by
    obtain ⟨h1, h2⟩ := h (m + 1) (by omega) (Nat.le_refl _)
    show (if us p (m + 1) = true ∧ T (p + (m + 1)) (l - 1) = T p l then m + 1 else zlc T us p l m) = (if us2 p (m + 1) = true ∧ T2 (p + (m + 1)) (l - 1) = T2 p l then m + 1 else zlc T2 us2 p l m)
    rw [h1, zlc_cg m (fun k k1 k2 => h k k1 (by omega))]
    by_cases q : us2 p (m + 1) = true ∧ T2 (p + (m + 1)) (l - 1) = T2 p l
    · rw [if_pos q, if_pos ⟨q.1, h2.mpr q.2⟩]
    · rw [if_neg q, if_neg (fun r => q ⟨r.1, h2.mp r.2⟩)]
theorem zcut_cg {nd : Nat} {T T2 : Nat → Nat → Nat} {us us2 : Nat → Nat → Bool} (h : ∀ p l k, p < nd → 0 < l → 1 ≤ k → k ≤ 4 → us p k = us2 p k ∧ (T (p + k) (l - 1) = T p l ↔ T2 (p + k) (l - 1) = T2 p l)) : ∀ f p l, nd - p ≤ f → zcut nd T us p l = zcut nd T2 us2 p l := by
  intro f
  induction f with
  | zero => intro p l hf; rw [zcut_e (by omega), zcut_e (by omega)]
  | succ f ih =>
    intro p l hf
    rcases Nat.lt_or_ge p nd with hp | hp
    · have e : zln T us p l = zln T2 us2 p l := by
        unfold zln
        by_cases q : 0 < l
        · rw [if_pos q, if_pos q]; exact zlc_cg 4 (fun k k1 k2 => h p l k hp q k1 k2)
        · rw [if_neg q, if_neg q]
      rcases Nat.eq_zero_or_pos (zln T us p l) with q | q
      · rw [zcut_p hp q, zcut_p hp (by omega), ih (p + 1) l (by omega)]
      · rw [zcut_c hp q, zcut_c hp (by omega), ← e, ih (p + zln T us p l) (l - 1) (by omega)]
    · rw [zcut_e hp, zcut_e hp]
theorem zcut_0 {nd : Nat} {T T2 : Nat → Nat → Nat} {us us2 : Nat → Nat → Bool} : ∀ f p, nd - p ≤ f → zcut nd T us p 0 = zcut nd T2 us2 p 0 := by
  intro f
  induction f with
  | zero => intro p hf; rw [zcut_e (by omega), zcut_e (by omega)]
  | succ f ih =>
    intro p hf
    have e1 : zln T us p 0 = 0 := by unfold zln; rw [if_neg (by omega)]
    have e2 : zln T2 us2 p 0 = 0 := by unfold zln; rw [if_neg (by omega)]
    rcases Nat.lt_or_ge p nd with hp | hp
    · rw [zcut_p hp e1, zcut_p hp e2, ih (p + 1) (by omega)]
    · rw [zcut_e hp, zcut_e hp]
/-- all of it: what is paid, how many groups, the cut -/
theorem zLT_no {nd : Nat} {pl : Nat → Nat} {us2 : Nat → Nat → Bool} (hus : ∀ p m, us2 p m = false) {n : Nat} (hh : 0 < n) : ∀ f p, nd - p ≤ f → zLT 1000000 nd pl us2 p n = 1000000 := by
  intro f
  induction f with
  | zero => intro p hf; rw [zLT_ge (by omega), if_neg (by omega)]
  | succ f ih =>
    intro p hf
    rcases Nat.lt_or_ge p nd with h | h
    · have e := ih (p + 1) (by omega)
      have l := zLT_le (B := 1000000) (nd := nd) (pl := pl) (us := us2) (p := p) (n := n)
      have q := zLT_q (B := 1000000) (pl := pl) (us := us2) (n := n) h
      rw [hus, hus, hus, hus, Bool.false_and, if_neg Bool.false_ne_true, if_neg Bool.false_ne_true, if_neg Bool.false_ne_true, if_neg Bool.false_ne_true, e] at q
      generalize (1000000 : Nat) = B at q ⊢
      omega
    · rw [zLT_ge h, if_neg (by omega)]
theorem zch_24 {nd cd PC : Nat} {pl : Nat → Nat} {us2 : Nat → Nat → Bool} (hn : nd ≤ 24) (hPC : PC < 1000000) : zch (fun n => zLT 1000000 nd pl us2 0 n) cd PC 24 = zch (fun n => zLT 1000000 nd pl us2 0 n) cd PC nd := by
  have := zch_more (T := fun n => zLT 1000000 nd pl us2 0 n) (cd := cd) (pc := PC) (nd := nd) hPC (fun n hh => zLT_big nd 0 n (Nat.sub_zero nd) (by rw [Nat.sub_zero]; exact hh)) (24 - nd)
  have e : nd + (24 - nd) = 24 := by omega
  rw [e] at this
  exact this
theorem zpack_same {nd ne cd PC paid many paid2 many2 : Nat} {pl : Nat → Nat} {us us2 : Nat → Nat → Bool} {L L2 : List (Nat × Nat)} {b : Bool} (hn : nd ≤ 24) (hp : ∀ p, p < nd → pl p ≤ 20) (hPC : PC < 1000000)
    (hu : b = true → ∀ p m, p < nd → 1 ≤ m → m ≤ 4 → us p m = us2 p m) (h0 : ne = 0 → ∀ p m, us2 p m = false)
    (h1 : (paid, many) = (if b then zch (fun n => zLT 1000000000 nd pl us 0 n) cd PC nd else (PC, 0))) (hL : L = zcut nd (zLT 1000000000 nd pl us) us 0 many)
    (h2 : (paid2, many2) = (if b && decide (0 < ne) then zch (fun n => zLT 1000000 nd pl us2 0 n) cd PC 24 else (PC, 0))) (hL2 : L2 = zcut nd (zLT 1000000 nd pl us2) us2 0 many2) : paid = paid2 ∧ many = many2 ∧ L = L2 := by
  cases b with
  | false =>
    rw [if_neg (by decide)] at h1
    rw [Bool.false_and, if_neg (by decide)] at h2
    cases h1; cases h2
    exact ⟨rfl, rfl, by rw [hL, hL2]; exact zcut_0 nd 0 (by omega)⟩
  | true =>
    have hu := hu rfl
    have t := zLT_two hn hp hu
    have hz : 20 * (nd - 0) < 1000000 := by omega
    have e1 : zch (fun n => zLT 1000000000 nd pl us 0 n) cd PC nd = zch (fun n => zLT 1000000 nd pl us2 0 n) cd PC nd := zch_two hz hPC (fun n => t nd 0 n (by omega)) nd
    have e2 := zch_24 (cd := cd) (pl := pl) (us2 := us2) hn hPC
    have e3 : (paid, many) = (paid2, many2) := by
      rw [if_pos rfl, e1] at h1
      by_cases q : 0 < ne
      · rw [Bool.true_and, if_pos (decide_eq_true q), e2] at h2
        rw [h1, h2]
      · rw [Bool.true_and, if_neg (by simp [q])] at h2
        rw [h1, h2]
        refine zch_none hPC (fun n hh => ?_) nd
        exact zLT_no (h0 (by omega)) hh nd 0 (by omega)
    obtain ⟨e4, e5⟩ := Prod.mk.inj e3
    refine ⟨e4, e5, ?_⟩
    rw [hL, hL2, ← e5]
    exact zcut_cg (fun p l k q1 q2 q3 q4 => ⟨hu p k q1 q3 q4, z2_eq (by omega) (by omega) (t nd p l (by omega)) (t nd (p + k) (l - 1) (by omega))⟩) nd 0 many (by omega)
