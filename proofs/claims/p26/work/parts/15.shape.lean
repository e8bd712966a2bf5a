/-! the static shape, by program: ids of the objects that the constructors and the law make -/
def zobs : List (Nat × Nat) := [(1, 8), (2, 0), (7, 6), (11, 2), (13, 4), (18, 7)]
def zars : List (Nat × Nat × Nat) := [(3, 0, 30), (4, 0, 40), (5, 0, 160), (6, 0, 40), (8, 0, 96), (9, 0, 625), (10, 0, 24), (12, 0, 24), (14, 5, 8), (15, 3, 12), (16, 0, 8), (17, 0, 8), (19, 6, 12), (20, 4, 60)]
def zrfs : List (Nat × Nat × Nat) := [(1, 0, 2), (1, 1, 7), (1, 2, 11), (1, 3, 13), (1, 4, 18), (1, 5, 19), (1, 6, 20), (2, 0, 3), (2, 1, 4), (2, 2, 5), (2, 3, 6), (7, 0, 2), (7, 1, 8), (7, 2, 9), (7, 3, 10), (11, 0, 12), (13, 0, 14), (13, 1, 15), (13, 2, 16), (13, 3, 17)]
def zS (g : zSh) : Prop := (∀ q ∈ zobs, z_ob g q.1 q.2) ∧ (∀ q ∈ zars, z_ar g q.1 q.2.1 q.2.2) ∧ ∀ q ∈ zrfs, z_rf g q.1 q.2.1 q.2.2
theorem zso_1 {g : zSh} (h : zS g) : z_ob g 1 8 := h.1 (1, 8) (by decide)
theorem zso_2 {g : zSh} (h : zS g) : z_ob g 2 0 := h.1 (2, 0) (by decide)
theorem zso_7 {g : zSh} (h : zS g) : z_ob g 7 6 := h.1 (7, 6) (by decide)
theorem zso_11 {g : zSh} (h : zS g) : z_ob g 11 2 := h.1 (11, 2) (by decide)
theorem zso_13 {g : zSh} (h : zS g) : z_ob g 13 4 := h.1 (13, 4) (by decide)
theorem zso_18 {g : zSh} (h : zS g) : z_ob g 18 7 := h.1 (18, 7) (by decide)
theorem zsa_3 {g : zSh} (h : zS g) : z_ar g 3 0 30 := h.2.1 (3, 0, 30) (by decide)
theorem zsa_4 {g : zSh} (h : zS g) : z_ar g 4 0 40 := h.2.1 (4, 0, 40) (by decide)
theorem zsa_5 {g : zSh} (h : zS g) : z_ar g 5 0 160 := h.2.1 (5, 0, 160) (by decide)
theorem zsa_6 {g : zSh} (h : zS g) : z_ar g 6 0 40 := h.2.1 (6, 0, 40) (by decide)
theorem zsa_8 {g : zSh} (h : zS g) : z_ar g 8 0 96 := h.2.1 (8, 0, 96) (by decide)
theorem zsa_9 {g : zSh} (h : zS g) : z_ar g 9 0 625 := h.2.1 (9, 0, 625) (by decide)
theorem zsa_10 {g : zSh} (h : zS g) : z_ar g 10 0 24 := h.2.1 (10, 0, 24) (by decide)
theorem zsa_12 {g : zSh} (h : zS g) : z_ar g 12 0 24 := h.2.1 (12, 0, 24) (by decide)
theorem zsa_14 {g : zSh} (h : zS g) : z_ar g 14 5 8 := h.2.1 (14, 5, 8) (by decide)
theorem zsa_15 {g : zSh} (h : zS g) : z_ar g 15 3 12 := h.2.1 (15, 3, 12) (by decide)
theorem zsa_16 {g : zSh} (h : zS g) : z_ar g 16 0 8 := h.2.1 (16, 0, 8) (by decide)
theorem zsa_17 {g : zSh} (h : zS g) : z_ar g 17 0 8 := h.2.1 (17, 0, 8) (by decide)
theorem zsa_19 {g : zSh} (h : zS g) : z_ar g 19 6 12 := h.2.1 (19, 6, 12) (by decide)
theorem zsa_20 {g : zSh} (h : zS g) : z_ar g 20 4 60 := h.2.1 (20, 4, 60) (by decide)
theorem zsr_1_0 {g : zSh} (h : zS g) : z_rf g 1 0 2 := h.2.2 (1, 0, 2) (by decide)
theorem zsr_1_1 {g : zSh} (h : zS g) : z_rf g 1 1 7 := h.2.2 (1, 1, 7) (by decide)
theorem zsr_1_2 {g : zSh} (h : zS g) : z_rf g 1 2 11 := h.2.2 (1, 2, 11) (by decide)
theorem zsr_1_3 {g : zSh} (h : zS g) : z_rf g 1 3 13 := h.2.2 (1, 3, 13) (by decide)
theorem zsr_1_4 {g : zSh} (h : zS g) : z_rf g 1 4 18 := h.2.2 (1, 4, 18) (by decide)
theorem zsr_1_5 {g : zSh} (h : zS g) : z_rf g 1 5 19 := h.2.2 (1, 5, 19) (by decide)
theorem zsr_1_6 {g : zSh} (h : zS g) : z_rf g 1 6 20 := h.2.2 (1, 6, 20) (by decide)
theorem zsr_2_0 {g : zSh} (h : zS g) : z_rf g 2 0 3 := h.2.2 (2, 0, 3) (by decide)
theorem zsr_2_1 {g : zSh} (h : zS g) : z_rf g 2 1 4 := h.2.2 (2, 1, 4) (by decide)
theorem zsr_2_2 {g : zSh} (h : zS g) : z_rf g 2 2 5 := h.2.2 (2, 2, 5) (by decide)
theorem zsr_2_3 {g : zSh} (h : zS g) : z_rf g 2 3 6 := h.2.2 (2, 3, 6) (by decide)
theorem zsr_7_0 {g : zSh} (h : zS g) : z_rf g 7 0 2 := h.2.2 (7, 0, 2) (by decide)
theorem zsr_7_1 {g : zSh} (h : zS g) : z_rf g 7 1 8 := h.2.2 (7, 1, 8) (by decide)
theorem zsr_7_2 {g : zSh} (h : zS g) : z_rf g 7 2 9 := h.2.2 (7, 2, 9) (by decide)
theorem zsr_7_3 {g : zSh} (h : zS g) : z_rf g 7 3 10 := h.2.2 (7, 3, 10) (by decide)
theorem zsr_11_0 {g : zSh} (h : zS g) : z_rf g 11 0 12 := h.2.2 (11, 0, 12) (by decide)
theorem zsr_13_0 {g : zSh} (h : zS g) : z_rf g 13 0 14 := h.2.2 (13, 0, 14) (by decide)
theorem zsr_13_1 {g : zSh} (h : zS g) : z_rf g 13 1 15 := h.2.2 (13, 1, 15) (by decide)
theorem zsr_13_2 {g : zSh} (h : zS g) : z_rf g 13 2 16 := h.2.2 (13, 2, 16) (by decide)
theorem zsr_13_3 {g : zSh} (h : zS g) : z_rf g 13 3 17 := h.2.2 (13, 3, 17) (by decide)
/-- the offices, cables, rules, messages that there are -/
def zO (g : zSh) (n : Nat) : Prop := n ≤ 8 ∧ (∀ o, o < n → z_ob g (100 + o) 5 ∧ z_rf g (100 + o) 0 (110 + o) ∧ z_ar g (110 + o) 1 13 ∧ z_rf g 14 o (100 + o)) ∧ ∀ o, n ≤ o → g.2.2.2.2 14 o = 0
def zC (g : zSh) (n : Nat) : Prop := n ≤ 12 ∧ (∀ c, c < n → z_ob g (120 + c) 1 ∧ z_rf g 15 c (120 + c)) ∧ ∀ c, n ≤ c → g.2.2.2.2 15 c = 0
def zU (g : zSh) (n : Nat) : Prop := n ≤ 12 ∧ (∀ k, k < n → z_ob g (140 + k) 7 ∧ z_rf g 19 k (140 + k)) ∧ ∀ k, n ≤ k → g.2.2.2.2 19 k = 0
def zG (g : zSh) (n : Nat) : Prop := n ≤ 60 ∧ (∀ m, m < n → z_ob g (200 + m) 3 ∧ z_rf g 20 m (200 + m) ∧ z_rf g (200 + m) 6 (300 + m) ∧ z_rf g (200 + m) 7 (400 + m) ∧ z_rf g (200 + m) 8 (500 + m) ∧ z_ar g (300 + m) 0 (g.2.2.2.1 (300 + m)) ∧ z_ar g (400 + m) 0 (g.2.2.2.1 (300 + m)) ∧ z_ar g (500 + m) 0 (g.2.2.2.1 (500 + m))) ∧ ∀ m, n ≤ m → g.2.2.2.2 20 m = 0
/-- an index that is in 0 .. n - 1 -/
def zin (i : Int32) (n : Nat) : Bool := decide (0 ≤ i.toInt ∧ i.toInt < n)
theorem zin_t {i : Int32} {n : Nat} (h : zin i n = true) (hn : n < 2 ^ 31) : ∃ j, j < n ∧ i = nI j := by
  unfold zin at h
  have h1 := of_decide_eq_true h
  obtain ⟨j, hj, rfl⟩ := nI_of (x := i) (by rw [Int32.lt_iff_toInt_lt]; have : (0 : Int32).toInt = 0 := by decide
                                            omega)
  rw [nI_toInt hj] at h1
  exact ⟨j, by omega, rfl⟩
theorem zin_nI {j n : Nat} (h : j < n) (hn : j < 2 ^ 31) : zin (nI j) n = true := by
  unfold zin; rw [nI_toInt hn]; exact decide_eq_true ⟨by omega, by omega⟩
theorem zin_nI_iff {j n : Nat} (hn : j < 2 ^ 31) : zin (nI j) n = true ↔ j < n := by
  unfold zin; rw [nI_toInt hn]; simp
theorem zin_nI_f {j n : Nat} (hj : n ≤ j) (hn : j < 2 ^ 31) : zin (nI j) n = false := by
  unfold zin; rw [nI_toInt hn]; exact decide_eq_false (by omega)
theorem zin_m1 {n : Nat} : zin (-1) n = false := by
  unfold zin; have : (-1 : Int32).toInt = -1 := by decide
  rw [this]; exact decide_eq_false (by omega)
theorem zsub1 {n : Nat} (hn : n < 2 ^ 30) : (nI n - 1).toInt = (n : Int) - 1 := by
  have h := pk_sub_toInt (a := n) (b := 1) hn (by decide)
  exact h
theorem zoutc {i : Int32} (n : Nat) {c : Int32} (hc : c.toInt = (n : Int) - 1) : decide (i < 0 ∨ c < i) = !zin i n := by
  unfold zin
  rw [← decide_not]
  refine decide_eq_decide.mpr ?_
  rw [Int32.lt_iff_toInt_lt, Int32.lt_iff_toInt_lt, hc]
  have : (0 : Int32).toInt = 0 := by decide
  rw [this]
  constructor <;> intro h <;> omega
/-- isOutside (i, 0, n - 1) -/
theorem zout {i : Int32} {n : Nat} (hn : n < 2 ^ 30) : decide (i < 0 ∨ nI n - 1 < i) = !zin i n := zoutc n (zsub1 hn)
theorem zoutN {i : Int32} {n : Nat} (h0 : 0 < n) (hn : n < 2 ^ 30) : decide (i < nI 0 ∨ nI (n - 1) < i) = !zin i n := zoutc n (by rw [nI_toInt (by omega)]; omega)
theorem zbk_0 {b : Bool} : zb b = nI 0 ↔ b = false := zb_0
theorem zbk_n0 {b : Bool} : ¬ zb b = nI 0 ↔ b = true := zb_n0
theorem zbk_not {b : Bool} : zb (!b) = nI 0 ↔ b = true := by cases b <;> decide
theorem zbk_notn {b : Bool} : ¬ zb (!b) = nI 0 ↔ b = false := by cases b <;> decide
theorem zb_not {b : Bool} : zb (!b) = 0 ↔ b = true := by cases b <;> decide
theorem zb_notn {b : Bool} : ¬ zb (!b) = 0 ↔ b = false := by cases b <;> decide
