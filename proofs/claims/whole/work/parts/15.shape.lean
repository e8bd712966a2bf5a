/-! the static shape, by program: ids of the objects that the constructors and the law make -/
def zobs : List (Nat × Nat) := [(1, 8), (2, 0), (7, 6), (11, 2), (13, 4), (18, 7), (21, 9)]
def zars : List (Nat × Nat × Nat) := [(3, 0, 30), (4, 0, 40), (5, 0, 160), (6, 0, 40), (8, 0, 96), (9, 0, 625), (10, 0, 24), (12, 0, 24), (14, 5, 8), (15, 3, 12), (16, 0, 8), (17, 0, 8), (19, 6, 12), (20, 4, 60), (22, 0, 30), (23, 0, 40), (24, 0, 160), (25, 1, 8), (26, 0, 8), (27, 0, 8), (28, 0, 8), (29, 0, 12), (30, 0, 12), (31, 0, 12), (32, 0, 12), (33, 1, 12), (34, 0, 13), (35, 0, 13), (36, 0, 13), (37, 0, 13), (38, 0, 24), (39, 0, 625), (40, 0, 24), (41, 0, 60), (42, 0, 60), (43, 0, 60), (44, 0, 60), (45, 0, 60), (46, 0, 60), (47, 0, 60), (48, 0, 60), (49, 1, 60), (50, 0, 1440), (51, 0, 1440), (52, 0, 480), (53, 0, 60), (54, 0, 60), (55, 0, 60), (56, 1, 60), (57, 0, 8), (58, 0, 8), (59, 2, 1)]
def zrfs : List (Nat × Nat × Nat) := [(1, 0, 2), (1, 1, 7), (1, 2, 11), (1, 3, 13), (1, 4, 18), (1, 5, 19), (1, 6, 20), (2, 0, 3), (2, 1, 4), (2, 2, 5), (2, 3, 6), (7, 0, 2), (7, 1, 8), (7, 2, 9), (7, 3, 10), (11, 0, 12), (13, 0, 14), (13, 1, 15), (13, 2, 16), (13, 3, 17), (21, 1, 22), (21, 3, 23), (21, 4, 24), (21, 6, 25), (21, 7, 26), (21, 8, 27), (21, 9, 28), (21, 11, 29), (21, 12, 30), (21, 13, 31), (21, 14, 32), (21, 15, 33), (21, 17, 34), (21, 18, 35), (21, 19, 36), (21, 20, 37), (21, 21, 38), (21, 23, 39), (21, 24, 40), (21, 28, 41), (21, 29, 42), (21, 30, 43), (21, 31, 44), (21, 32, 45), (21, 33, 46), (21, 34, 47), (21, 35, 48), (21, 36, 49), (21, 37, 50), (21, 38, 51), (21, 39, 52), (21, 40, 53), (21, 41, 54), (21, 42, 55), (21, 43, 56), (21, 44, 57), (21, 45, 58)]
def zS (g : zSh) : Prop := (∀ q ∈ zobs, z_ob g q.1 q.2) ∧ (∀ q ∈ zars, z_ar g q.1 q.2.1 q.2.2) ∧ ∀ q ∈ zrfs, z_rf g q.1 q.2.1 q.2.2
theorem zso_1 {g : zSh} (h : zS g) : z_ob g 1 8 := h.1 (1, 8) (by decide)
theorem zso_2 {g : zSh} (h : zS g) : z_ob g 2 0 := h.1 (2, 0) (by decide)
theorem zso_7 {g : zSh} (h : zS g) : z_ob g 7 6 := h.1 (7, 6) (by decide)
theorem zso_11 {g : zSh} (h : zS g) : z_ob g 11 2 := h.1 (11, 2) (by decide)
theorem zso_13 {g : zSh} (h : zS g) : z_ob g 13 4 := h.1 (13, 4) (by decide)
theorem zso_18 {g : zSh} (h : zS g) : z_ob g 18 7 := h.1 (18, 7) (by decide)
theorem zso_21 {g : zSh} (h : zS g) : z_ob g 21 9 := h.1 (21, 9) (by decide)
theorem zsa_3 {g : zSh} (h : zS g) : z_ar g 3 0 30 := h.2.1 (3, 0, 30) (by decide)
theorem zsa_4 {g : zSh} (h : zS g) : z_ar g 4 0 40 := h.2.1 (4, 0, 40) (by decide)
theorem zsa_5 {g : zSh} (h : zS g) : z_ar g 5 0 160 := h.2.1 (5, 0, 160) (by decide)
theorem zsa_6 {g : zSh} (h : zS g) : z_ar g 6 0 40 := h.2.1 (6, 0, 40) (by decide)
theorem zsa_8 {g : zSh} (h : zS g) : z_ar g 8 0 96 := h.2.1 (8, 0, 96) (by decide)
theorem zsa_9 {g : zSh} (h : zS g) : z_ar g 9 0 625 := h.2.1 (9, 0, 625) (by decide)
theorem zsa_10 {g : zSh} (h : zS g) : z_ar g 10 0 24 := h.2.1 (10, 0, 24) (by decide)
theorem zsa_12 {g : zSh} (h : zS g) : z_ar g 12 0 24 := h.2.1 (12, 0, 24) (by decide)
theorem zsa_14 {g : zSh} (h : zS g) : z_ar g 14 5 8 := h.2.1 (14, 5, 8) (by decide)
theorem zsa_15 {g : zSh} (h : zS g) : z_ar g 15 3 12 := h.2.1 (15, 3, 12) (by decide)
theorem zsa_16 {g : zSh} (h : zS g) : z_ar g 16 0 8 := h.2.1 (16, 0, 8) (by decide)
theorem zsa_17 {g : zSh} (h : zS g) : z_ar g 17 0 8 := h.2.1 (17, 0, 8) (by decide)
theorem zsa_19 {g : zSh} (h : zS g) : z_ar g 19 6 12 := h.2.1 (19, 6, 12) (by decide)
theorem zsa_20 {g : zSh} (h : zS g) : z_ar g 20 4 60 := h.2.1 (20, 4, 60) (by decide)
theorem zsa_22 {g : zSh} (h : zS g) : z_ar g 22 0 30 := h.2.1 (22, 0, 30) (by decide)
theorem zsa_23 {g : zSh} (h : zS g) : z_ar g 23 0 40 := h.2.1 (23, 0, 40) (by decide)
theorem zsa_24 {g : zSh} (h : zS g) : z_ar g 24 0 160 := h.2.1 (24, 0, 160) (by decide)
theorem zsa_25 {g : zSh} (h : zS g) : z_ar g 25 1 8 := h.2.1 (25, 1, 8) (by decide)
theorem zsa_26 {g : zSh} (h : zS g) : z_ar g 26 0 8 := h.2.1 (26, 0, 8) (by decide)
theorem zsa_27 {g : zSh} (h : zS g) : z_ar g 27 0 8 := h.2.1 (27, 0, 8) (by decide)
theorem zsa_28 {g : zSh} (h : zS g) : z_ar g 28 0 8 := h.2.1 (28, 0, 8) (by decide)
theorem zsa_29 {g : zSh} (h : zS g) : z_ar g 29 0 12 := h.2.1 (29, 0, 12) (by decide)
theorem zsa_30 {g : zSh} (h : zS g) : z_ar g 30 0 12 := h.2.1 (30, 0, 12) (by decide)
theorem zsa_31 {g : zSh} (h : zS g) : z_ar g 31 0 12 := h.2.1 (31, 0, 12) (by decide)
theorem zsa_32 {g : zSh} (h : zS g) : z_ar g 32 0 12 := h.2.1 (32, 0, 12) (by decide)
theorem zsa_33 {g : zSh} (h : zS g) : z_ar g 33 1 12 := h.2.1 (33, 1, 12) (by decide)
theorem zsa_34 {g : zSh} (h : zS g) : z_ar g 34 0 13 := h.2.1 (34, 0, 13) (by decide)
theorem zsa_35 {g : zSh} (h : zS g) : z_ar g 35 0 13 := h.2.1 (35, 0, 13) (by decide)
theorem zsa_36 {g : zSh} (h : zS g) : z_ar g 36 0 13 := h.2.1 (36, 0, 13) (by decide)
theorem zsa_37 {g : zSh} (h : zS g) : z_ar g 37 0 13 := h.2.1 (37, 0, 13) (by decide)
theorem zsa_38 {g : zSh} (h : zS g) : z_ar g 38 0 24 := h.2.1 (38, 0, 24) (by decide)
theorem zsa_39 {g : zSh} (h : zS g) : z_ar g 39 0 625 := h.2.1 (39, 0, 625) (by decide)
theorem zsa_40 {g : zSh} (h : zS g) : z_ar g 40 0 24 := h.2.1 (40, 0, 24) (by decide)
theorem zsa_41 {g : zSh} (h : zS g) : z_ar g 41 0 60 := h.2.1 (41, 0, 60) (by decide)
theorem zsa_42 {g : zSh} (h : zS g) : z_ar g 42 0 60 := h.2.1 (42, 0, 60) (by decide)
theorem zsa_43 {g : zSh} (h : zS g) : z_ar g 43 0 60 := h.2.1 (43, 0, 60) (by decide)
theorem zsa_44 {g : zSh} (h : zS g) : z_ar g 44 0 60 := h.2.1 (44, 0, 60) (by decide)
theorem zsa_45 {g : zSh} (h : zS g) : z_ar g 45 0 60 := h.2.1 (45, 0, 60) (by decide)
theorem zsa_46 {g : zSh} (h : zS g) : z_ar g 46 0 60 := h.2.1 (46, 0, 60) (by decide)
theorem zsa_47 {g : zSh} (h : zS g) : z_ar g 47 0 60 := h.2.1 (47, 0, 60) (by decide)
theorem zsa_48 {g : zSh} (h : zS g) : z_ar g 48 0 60 := h.2.1 (48, 0, 60) (by decide)
theorem zsa_49 {g : zSh} (h : zS g) : z_ar g 49 1 60 := h.2.1 (49, 1, 60) (by decide)
theorem zsa_50 {g : zSh} (h : zS g) : z_ar g 50 0 1440 := h.2.1 (50, 0, 1440) (by decide)
theorem zsa_51 {g : zSh} (h : zS g) : z_ar g 51 0 1440 := h.2.1 (51, 0, 1440) (by decide)
theorem zsa_52 {g : zSh} (h : zS g) : z_ar g 52 0 480 := h.2.1 (52, 0, 480) (by decide)
theorem zsa_53 {g : zSh} (h : zS g) : z_ar g 53 0 60 := h.2.1 (53, 0, 60) (by decide)
theorem zsa_54 {g : zSh} (h : zS g) : z_ar g 54 0 60 := h.2.1 (54, 0, 60) (by decide)
theorem zsa_55 {g : zSh} (h : zS g) : z_ar g 55 0 60 := h.2.1 (55, 0, 60) (by decide)
theorem zsa_56 {g : zSh} (h : zS g) : z_ar g 56 1 60 := h.2.1 (56, 1, 60) (by decide)
theorem zsa_57 {g : zSh} (h : zS g) : z_ar g 57 0 8 := h.2.1 (57, 0, 8) (by decide)
theorem zsa_58 {g : zSh} (h : zS g) : z_ar g 58 0 8 := h.2.1 (58, 0, 8) (by decide)
theorem zsa_59 {g : zSh} (h : zS g) : z_ar g 59 2 1 := h.2.1 (59, 2, 1) (by decide)
theorem zsr_1_0 {g : zSh} (h : zS g) : z_rf g 1 0 2 := h.2.2 (1, 0, 2) (by decide)
theorem zsr_1_1 {g : zSh} (h : zS g) : z_rf g 1 1 7 := h.2.2 (1, 1, 7) (by decide)
theorem zsr_1_2 {g : zSh} (h : zS g) : z_rf g 1 2 11 := h.2.2 (1, 2, 11) (by decide)
theorem zsr_1_3 {g : zSh} (h : zS g) : z_rf g 1 3 13 := h.2.2 (1, 3, 13) (by decide)
theorem zsr_1_4 {g : zSh} (h : zS g) : z_rf g 1 4 18 := h.2.2 (1, 4, 18) (by decide)
theorem zsr_1_5 {g : zSh} (h : zS g) : z_rf g 1 5 19 := h.2.2 (1, 5, 19) (by decide)
theorem zsr_1_6 {g : zSh} (h : zS g) : z_rf g 1 6 20 := h.2.2 (1, 6, 20) (by decide)
theorem zsr_2_0 {g : zSh} (h : zS g) : z_rf g 2 0 3 := h.2.2 (2, 0, 3) (by decide)
theorem zsr_2_1 {g : zSh} (h : zS g) : z_rf g 2 1 4 := h.2.2 (2, 1, 4) (by decide)
theorem zsr_2_2 {g : zSh} (h : zS g) : z_rf g 2 2 5 := h.2.2 (2, 2, 5) (by decide)
theorem zsr_2_3 {g : zSh} (h : zS g) : z_rf g 2 3 6 := h.2.2 (2, 3, 6) (by decide)
theorem zsr_7_0 {g : zSh} (h : zS g) : z_rf g 7 0 2 := h.2.2 (7, 0, 2) (by decide)
theorem zsr_7_1 {g : zSh} (h : zS g) : z_rf g 7 1 8 := h.2.2 (7, 1, 8) (by decide)
theorem zsr_7_2 {g : zSh} (h : zS g) : z_rf g 7 2 9 := h.2.2 (7, 2, 9) (by decide)
theorem zsr_7_3 {g : zSh} (h : zS g) : z_rf g 7 3 10 := h.2.2 (7, 3, 10) (by decide)
theorem zsr_11_0 {g : zSh} (h : zS g) : z_rf g 11 0 12 := h.2.2 (11, 0, 12) (by decide)
theorem zsr_13_0 {g : zSh} (h : zS g) : z_rf g 13 0 14 := h.2.2 (13, 0, 14) (by decide)
theorem zsr_13_1 {g : zSh} (h : zS g) : z_rf g 13 1 15 := h.2.2 (13, 1, 15) (by decide)
theorem zsr_13_2 {g : zSh} (h : zS g) : z_rf g 13 2 16 := h.2.2 (13, 2, 16) (by decide)
theorem zsr_13_3 {g : zSh} (h : zS g) : z_rf g 13 3 17 := h.2.2 (13, 3, 17) (by decide)
theorem zsr_21_1 {g : zSh} (h : zS g) : z_rf g 21 1 22 := h.2.2 (21, 1, 22) (by decide)
theorem zsr_21_3 {g : zSh} (h : zS g) : z_rf g 21 3 23 := h.2.2 (21, 3, 23) (by decide)
theorem zsr_21_4 {g : zSh} (h : zS g) : z_rf g 21 4 24 := h.2.2 (21, 4, 24) (by decide)
theorem zsr_21_6 {g : zSh} (h : zS g) : z_rf g 21 6 25 := h.2.2 (21, 6, 25) (by decide)
theorem zsr_21_7 {g : zSh} (h : zS g) : z_rf g 21 7 26 := h.2.2 (21, 7, 26) (by decide)
theorem zsr_21_8 {g : zSh} (h : zS g) : z_rf g 21 8 27 := h.2.2 (21, 8, 27) (by decide)
theorem zsr_21_9 {g : zSh} (h : zS g) : z_rf g 21 9 28 := h.2.2 (21, 9, 28) (by decide)
theorem zsr_21_11 {g : zSh} (h : zS g) : z_rf g 21 11 29 := h.2.2 (21, 11, 29) (by decide)
theorem zsr_21_12 {g : zSh} (h : zS g) : z_rf g 21 12 30 := h.2.2 (21, 12, 30) (by decide)
theorem zsr_21_13 {g : zSh} (h : zS g) : z_rf g 21 13 31 := h.2.2 (21, 13, 31) (by decide)
theorem zsr_21_14 {g : zSh} (h : zS g) : z_rf g 21 14 32 := h.2.2 (21, 14, 32) (by decide)
theorem zsr_21_15 {g : zSh} (h : zS g) : z_rf g 21 15 33 := h.2.2 (21, 15, 33) (by decide)
theorem zsr_21_17 {g : zSh} (h : zS g) : z_rf g 21 17 34 := h.2.2 (21, 17, 34) (by decide)
theorem zsr_21_18 {g : zSh} (h : zS g) : z_rf g 21 18 35 := h.2.2 (21, 18, 35) (by decide)
theorem zsr_21_19 {g : zSh} (h : zS g) : z_rf g 21 19 36 := h.2.2 (21, 19, 36) (by decide)
theorem zsr_21_20 {g : zSh} (h : zS g) : z_rf g 21 20 37 := h.2.2 (21, 20, 37) (by decide)
theorem zsr_21_21 {g : zSh} (h : zS g) : z_rf g 21 21 38 := h.2.2 (21, 21, 38) (by decide)
theorem zsr_21_23 {g : zSh} (h : zS g) : z_rf g 21 23 39 := h.2.2 (21, 23, 39) (by decide)
theorem zsr_21_24 {g : zSh} (h : zS g) : z_rf g 21 24 40 := h.2.2 (21, 24, 40) (by decide)
theorem zsr_21_28 {g : zSh} (h : zS g) : z_rf g 21 28 41 := h.2.2 (21, 28, 41) (by decide)
theorem zsr_21_29 {g : zSh} (h : zS g) : z_rf g 21 29 42 := h.2.2 (21, 29, 42) (by decide)
theorem zsr_21_30 {g : zSh} (h : zS g) : z_rf g 21 30 43 := h.2.2 (21, 30, 43) (by decide)
theorem zsr_21_31 {g : zSh} (h : zS g) : z_rf g 21 31 44 := h.2.2 (21, 31, 44) (by decide)
theorem zsr_21_32 {g : zSh} (h : zS g) : z_rf g 21 32 45 := h.2.2 (21, 32, 45) (by decide)
theorem zsr_21_33 {g : zSh} (h : zS g) : z_rf g 21 33 46 := h.2.2 (21, 33, 46) (by decide)
theorem zsr_21_34 {g : zSh} (h : zS g) : z_rf g 21 34 47 := h.2.2 (21, 34, 47) (by decide)
theorem zsr_21_35 {g : zSh} (h : zS g) : z_rf g 21 35 48 := h.2.2 (21, 35, 48) (by decide)
theorem zsr_21_36 {g : zSh} (h : zS g) : z_rf g 21 36 49 := h.2.2 (21, 36, 49) (by decide)
theorem zsr_21_37 {g : zSh} (h : zS g) : z_rf g 21 37 50 := h.2.2 (21, 37, 50) (by decide)
theorem zsr_21_38 {g : zSh} (h : zS g) : z_rf g 21 38 51 := h.2.2 (21, 38, 51) (by decide)
theorem zsr_21_39 {g : zSh} (h : zS g) : z_rf g 21 39 52 := h.2.2 (21, 39, 52) (by decide)
theorem zsr_21_40 {g : zSh} (h : zS g) : z_rf g 21 40 53 := h.2.2 (21, 40, 53) (by decide)
theorem zsr_21_41 {g : zSh} (h : zS g) : z_rf g 21 41 54 := h.2.2 (21, 41, 54) (by decide)
theorem zsr_21_42 {g : zSh} (h : zS g) : z_rf g 21 42 55 := h.2.2 (21, 42, 55) (by decide)
theorem zsr_21_43 {g : zSh} (h : zS g) : z_rf g 21 43 56 := h.2.2 (21, 43, 56) (by decide)
theorem zsr_21_44 {g : zSh} (h : zS g) : z_rf g 21 44 57 := h.2.2 (21, 44, 57) (by decide)
theorem zsr_21_45 {g : zSh} (h : zS g) : z_rf g 21 45 58 := h.2.2 (21, 45, 58) (by decide)
/-- the offices, cables, rules, messages that there are -/
def zO (g : zSh) (n : Nat) : Prop := n ≤ 8 ∧ (∀ o, o < n → z_ob g (100 + o) 5 ∧ z_rf g (100 + o) 0 (110 + o) ∧ z_ar g (110 + o) 1 13 ∧ z_rf g 14 o (100 + o)) ∧ ∀ o, n ≤ o → g.2.2.2.2 14 o = 0
def zC (g : zSh) (n : Nat) : Prop := n ≤ 12 ∧ (∀ c, c < n → z_ob g (120 + c) 1 ∧ z_rf g 15 c (120 + c)) ∧ ∀ c, n ≤ c → g.2.2.2.2 15 c = 0
def zU (g : zSh) (n : Nat) : Prop := n ≤ 12 ∧ (∀ k, k < n → z_ob g (140 + k) 7 ∧ z_rf g 19 k (140 + k)) ∧ ∀ k, n ≤ k → g.2.2.2.2 19 k = 0
def zG (g : zSh) (n : Nat) : Prop := n ≤ 60 ∧ (∀ m, m < n → z_ob g (200 + m) 3 ∧ z_rf g 20 m (200 + m) ∧ z_rf g (200 + m) 6 (300 + m) ∧ z_rf g (200 + m) 7 (400 + m) ∧ z_rf g (200 + m) 8 (500 + m) ∧ z_ar g (300 + m) 0 (g.2.2.2.1 (300 + m)) ∧ z_ar g (400 + m) 0 (g.2.2.2.1 (300 + m)) ∧ z_ar g (500 + m) 0 (g.2.2.2.1 (500 + m))) ∧ ∀ m, n ≤ m → g.2.2.2.2 20 m = 0
/-- an index that is in 0 .. n - 1 -/
def zin (i : Int32) (n : Nat) : Bool := decide (0 ≤ i.toInt ∧ i.toInt < n)
theorem zin_t {i : Int32} {n : Nat} (h : zin i n = true) (hn : n < 2 ^ 31) : ∃ j, j < n ∧ i = nI j := by
  unfold zin at h
  have h1 := of_decide_eq_true h
  obtain ⟨j, hj, rfl⟩ := nI_of (x := i) (by rw [Int32.lt_iff_toInt_lt]; have : (0 : Int32).toInt = 0 := by decide
                                            omega)
  rw [nI_toInt hj] at h1
  exact ⟨j, by omega, rfl⟩
theorem zin_nI {j n : Nat} (h : j < n) (hn : j < 2 ^ 31) : zin (nI j) n = true := by
  unfold zin; rw [nI_toInt hn]; exact decide_eq_true ⟨by omega, by omega⟩
theorem zin_nI_iff {j n : Nat} (hn : j < 2 ^ 31) : zin (nI j) n = true ↔ j < n := by
  unfold zin; rw [nI_toInt hn]; simp
theorem zin_nI_f {j n : Nat} (hj : n ≤ j) (hn : j < 2 ^ 31) : zin (nI j) n = false := by
  unfold zin; rw [nI_toInt hn]; exact decide_eq_false (by omega)
theorem zin_m1 {n : Nat} : zin (-1) n = false := by
  unfold zin; have : (-1 : Int32).toInt = -1 := by decide
  rw [this]; exact decide_eq_false (by omega)
theorem zsub1 {n : Nat} (hn : n < 2 ^ 30) : (nI n - 1).toInt = (n : Int) - 1 := by
  have h := pk_sub_toInt (a := n) (b := 1) hn (by decide)
  exact h
theorem zoutc {i : Int32} (n : Nat) {c : Int32} (hc : c.toInt = (n : Int) - 1) : decide (i < 0 ∨ c < i) = !zin i n := by
  unfold zin
  rw [← decide_not]
  refine decide_eq_decide.mpr ?_
  rw [Int32.lt_iff_toInt_lt, Int32.lt_iff_toInt_lt, hc]
  have : (0 : Int32).toInt = 0 := by decide
  rw [this]
  constructor <;> intro h <;> omega
/-- isOutside (i, 0, n - 1) -/
theorem zout {i : Int32} {n : Nat} (hn : n < 2 ^ 30) : decide (i < 0 ∨ nI n - 1 < i) = !zin i n := zoutc n (zsub1 hn)
theorem zoutN {i : Int32} {n : Nat} (h0 : 0 < n) (hn : n < 2 ^ 30) : decide (i < nI 0 ∨ nI (n - 1) < i) = !zin i n := zoutc n (by rw [nI_toInt (by omega)]; omega)
theorem zbk_0 {b : Bool} : zb b = nI 0 ↔ b = false := zb_0
theorem zbk_n0 {b : Bool} : ¬ zb b = nI 0 ↔ b = true := zb_n0
theorem zbk_not {b : Bool} : zb (!b) = nI 0 ↔ b = true := by cases b <;> decide
theorem zbk_notn {b : Bool} : ¬ zb (!b) = nI 0 ↔ b = false := by cases b <;> decide
theorem zb_not {b : Bool} : zb (!b) = 0 ↔ b = true := by cases b <;> decide
theorem zb_notn {b : Bool} : ¬ zb (!b) = 0 ↔ b = false := by cases b <;> decide
