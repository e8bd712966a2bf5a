/-! contract of the class's face: send -/
theorem zcnt_sub {P Q : Nat → Prop} : ∀ {n : Nat}, (∀ k, k < n → P k → Q k) → zcnt P n ≤ zcnt Q n
  | 0, _ => Nat.le_refl _
  | n + 1, h => by
    have h1 := zcnt_sub (n := n) (fun k hk => h k (by omega))
    by_cases hp : P n
    · rw [zcnt_y hp, zcnt_y (h n (by omega) hp)]; omega
    · rw [zcnt_n hp]
      exact Nat.le_trans h1 (zcnt_mono Q (by omega))
theorem zcnt_ssub {P Q : Nat → Prop} {j : Nat} : ∀ {n : Nat}, j < n → (∀ k, k < n → P k → Q k) → Q j → ¬ P j → zcnt P n < zcnt Q n
  | 0, hj, _, _, _ => absurd hj (Nat.not_lt_zero _)
  | n + 1, hj, h, hq, hp => by
    by_cases e : j = n
    · subst e
      rw [zcnt_n hp, zcnt_y hq]
      have := zcnt_sub (n := j) (fun k hk => h k (by omega))
      omega
    · have h1 := zcnt_ssub (n := n) (by omega) (fun k hk => h k (by omega)) hq hp
      by_cases hp : P n
      · rw [zcnt_y hp, zcnt_y (h n (by omega) hp)]; omega
      · rw [zcnt_n hp]
        exact Nat.lt_of_lt_of_le h1 (zcnt_mono Q (by omega))
theorem zcnt_lt_n {P : Nat → Prop} {n j : Nat} (hj : j < n) (hp : ¬ P j) : zcnt P n < n := by
  have h1 := zcnt_ssub (P := P) (Q := fun _ => True) hj (fun _ _ _ => trivial) trivial hp
  exact Nat.lt_of_lt_of_le h1 (zcnt_le _ n)
abbrev zrcn (ad ot rt : Nat → Nat) (br : Nat → Bool) (d : Nat → Nat) : Nat → Nat → Prop := fun a c => d a < 1000000000 ∧ zcn ad ot rt br d a c
theorem zpath_len {ad ot rt d : Nat → Nat} {br : Nat → Bool} {nc no to : Nat} (hE : ∀ c, c < nc → ad c < no ∧ ot c < no) : ∀ {l : List Nat} {a : Nat}, a < no → zpath (zrcn ad ot rt br d) (zoe ad ot) nc to a l → l.length ≤ zcnt (fun v => d v < d a) no
  | [], a, _, _ => Nat.zero_le _
  | c :: l, a, ha, h => by
    obtain ⟨h1, h2, h3, h4, h5⟩ := h
    have hb : zoe ad ot c a < no := by
      unfold zoe; split
      · exact (hE c h2).2
      · exact (hE c h2).1
    have h6 := zpath_len hE hb h5
    have hd := h3.2.2.2
    have h7 := zcnt_ssub (P := fun v => d v < d (zoe ad ot c a)) (Q := fun v => d v < d a) hb (fun k _ hk => by omega) (by omega) (by omega)
    show l.length + 1 ≤ _
    omega
theorem zpath_len7 {ad ot rt d : Nat → Nat} {br : Nat → Bool} {nc no to a : Nat} {l : List Nat} (hE : ∀ c, c < nc → ad c < no ∧ ot c < no) (ha : a < no) (h : zpath (zrcn ad ot rt br d) (zoe ad ot) nc to a l) : l.length < no := Nat.lt_of_le_of_lt (zpath_len hE ha h) (zcnt_lt_n ha (Nat.lt_irrefl _))
theorem zpath_lt {cn : Nat → Nat → Prop} {oe : Nat → Nat → Nat} {nc to : Nat} : ∀ {l : List Nat} {a : Nat}, zpath cn oe nc to a l → ∀ i, i < l.length → l.getD i 0 < nc
  | [], a, _, i, hi => absurd hi (Nat.not_lt_zero _)
  | c :: l, a, h, i, hi => by
    cases i with
    | zero => exact h.2.1
    | succ i => exact zpath_lt h.2.2.2.2 i (by simpa using hi)
def zfR (σ σ' : zIn) : Prop := (∀ i, i ≠ 13 → i ≠ 16 → i ≠ 17 → σ' i = σ i) ∧ ∀ k, k ≠ 6 → σ' 13 k = σ 13 k
/-- the least costs to an office, as the class finds them -/
abbrev zdT (ad ot rt : Nat → Nat) (br : Nat → Bool) (nc no to : Nat) : Nat → Nat := zrs ad ot rt br nc (zd0 1000000000 to) (no - 1)
def zroute (ad ot rt : Nat → Nat) (br : Nat → Bool) (nc no fm to : Nat) (l : List Nat) : Prop := zpath (zrcn ad ot rt br (zdT ad ot rt br nc no to)) (zoe ad ot) nc to fm l
noncomputable def zx_send (no nd nm : Nat) (rte : Prop) (a b k : Int32) : Nat := if ¬ (zin a no = true ∧ zin b no = true) then 1 else if a = b ∨ (k < 0 ∨ 2 < k) then 2 else zif (nd = 0 ∨ nm = 60 ∨ ¬ rte) 3 0
theorem zS_gr {g : zSh} {i k j : Nat} (hi : ∀ q ∈ zrfs, q.1 ≠ i) (h : zS g) : zS (z_gr g i k j) := by
  refine ⟨h.1, h.2.1, fun q hq => ⟨?_, (h.2.2 q hq).2⟩⟩
  show z_upR _ i k j q.1 q.2.1 = _
  unfold z_upR; rw [if_neg (hi q hq)]; exact (h.2.2 q hq).1
theorem zrf_gr {g : zSh} {i k j x q r : Nat} (hx : x ≠ i) (h : z_rf g x q r) : z_rf (z_gr g i k j) x q r := by
  refine ⟨?_, h.2⟩
  show z_upR _ i k j x q = _
  unfold z_upR; rw [if_neg hx]; exact h.1
theorem zrf_at {g : zSh} {i k j : Nat} (hj : j ≠ 0) : z_rf (z_gr g i k j) i k j := ⟨by show z_upR _ _ _ _ i k = j; unfold z_upR; rw [if_pos rfl, if_pos rfl], hj⟩
theorem zrf_k {g : zSh} {i k j q r : Nat} (hq : q ≠ k) (h : z_rf g i q r) : z_rf (z_gr g i k j) i q r := ⟨by show z_upR _ _ _ _ i q = r; unfold z_upR; rw [if_pos rfl, if_neg hq]; exact h.1, h.2⟩
theorem zO_gr {g : zSh} {n i k j : Nat} (hi : i = 20 ∨ i = 15 ∨ i = 19) (h : zO g n) : zO (z_gr g i k j) n := by
  have hn := h.1
  refine ⟨h.1, fun o ho => ?_, fun o ho => ?_⟩
  · obtain ⟨h1, h2, h3, h4⟩ := h.2.1 o ho
    exact ⟨h1, zrf_gr (by omega) h2, h3, zrf_gr (by omega) h4⟩
  · show z_upR _ i k j 14 o = 0
    unfold z_upR; rw [if_neg (by omega)]; exact h.2.2 o ho
theorem zC_gr {g : zSh} {n i k j : Nat} (hi : i = 20 ∨ i = 14 ∨ i = 19 ∨ (100 ≤ i ∧ i < 120)) (h : zC g n) : zC (z_gr g i k j) n := by
  have hn := h.1
  refine ⟨h.1, fun c hc => ⟨(h.2.1 c hc).1, zrf_gr (by omega) (h.2.1 c hc).2⟩, fun c hc => ?_⟩
  show z_upR _ i k j 15 c = 0
  unfold z_upR; rw [if_neg (by omega)]; exact h.2.2 c hc
theorem zU_gr {g : zSh} {n i k j : Nat} (hi : i = 20 ∨ i = 14 ∨ i = 15 ∨ (100 ≤ i ∧ i < 120)) (h : zU g n) : zU (z_gr g i k j) n := by
  have hn := h.1
  refine ⟨h.1, fun c hc => ⟨(h.2.1 c hc).1, zrf_gr (by omega) (h.2.1 c hc).2⟩, fun c hc => ?_⟩
  show z_upR _ i k j 19 c = 0
  unfold z_upR; rw [if_neg (by omega)]; exact h.2.2 c hc
/-- the shape with one more message -/
abbrev zSh5 (g : zSh) (nm a b c d W RL : Nat) : zSh := z_gr (zAa (zAa (zAa (z_add g (200 + nm) a 3 0) (200 + nm) (300 + nm) b 10 W 6) (200 + nm) (400 + nm) c 10 W 7) (200 + nm) (500 + nm) d 10 RL 8) 20 nm (200 + nm)
theorem zAa_len {g : zSh} {x j a kd n k : Nat} : (zAa g x j a kd n k).2.2.2.1 j = n := if_pos rfl
theorem zAa_lenne {g : zSh} {x j a kd n k i : Nat} (h : i ≠ j) : (zAa g x j a kd n k).2.2.2.1 i = g.2.2.2.1 i := if_neg h
theorem z_add_lenne {g : zSh} {j a kd n i : Nat} (h : i ≠ j) : (z_add g j a kd n).2.2.2.1 i = g.2.2.2.1 i := if_neg h
theorem zG_new {g : zSh} {nm a b c d W RL : Nat} (hS : zS g) (hG : zG g nm) (hn : nm < 60) (h2 : 200 + nm ∉ g.1) (h3 : 300 + nm ∉ g.1) (h4 : 400 + nm ∉ g.1) (h5 : 500 + nm ∉ g.1) : zG (zSh5 g nm a b c d W RL) (nm + 1) ∧ (zSh5 g nm a b c d W RL).2.2.2.1 (300 + nm) = W ∧ (zSh5 g nm a b c d W RL).2.2.2.1 (500 + nm) = RL ∧ (∀ i, i ∈ g.1 → (zSh5 g nm a b c d W RL).2.2.2.1 i = g.2.2.2.1 i) ∧ zEx 20 g (zSh5 g nm a b c d W RL) := by
  have q3 : 300 + nm ∉ (z_add g (200 + nm) a 3 0).1 := fun q => by rcases List.mem_append.mp q with z | z; exact h3 z; have := List.mem_singleton.mp z; omega
  have q4 : 400 + nm ∉ (z_add g (200 + nm) a 3 0).1 := fun q => by rcases List.mem_append.mp q with z | z; exact h4 z; have := List.mem_singleton.mp z; omega
  have q5 : 500 + nm ∉ (z_add g (200 + nm) a 3 0).1 := fun q => by rcases List.mem_append.mp q with z | z; exact h5 z; have := List.mem_singleton.mp z; omega
  unfold zSh5
  have e0 : zEx 20 g (z_add g (200 + nm) a 3 0) := zEx_add h2
  have o0 : z_ob (z_add g (200 + nm) a 3 0) (200 + nm) 3 := z_ob_at
  generalize hg1 : z_add g (200 + nm) a 3 0 = g1 at q3 q4 q5 e0 o0 ⊢
  have e1 : zEx (200 + nm) g1 (zAa g1 (200 + nm) (300 + nm) b 10 W 6) := zEx_aa q3
  have r4 : 400 + nm ∉ (zAa g1 (200 + nm) (300 + nm) b 10 W 6).1 := z_ni q4 (by omega)
  have r5 : 500 + nm ∉ (zAa g1 (200 + nm) (300 + nm) b 10 W 6).1 := z_ni q5 (by omega)
  have a3 : z_ar (zAa g1 (200 + nm) (300 + nm) b 10 W 6) (300 + nm) 0 W := zAa_ar (t := 0)
  have f6 : z_rf (zAa g1 (200 + nm) (300 + nm) b 10 W 6) (200 + nm) 6 (300 + nm) := zAa_rf (by omega)
  generalize hg2 : zAa g1 (200 + nm) (300 + nm) b 10 W 6 = g2 at e1 r4 r5 a3 f6 ⊢
  have e2 : zEx (200 + nm) g2 (zAa g2 (200 + nm) (400 + nm) c 10 W 7) := zEx_aa r4
  have s5 : 500 + nm ∉ (zAa g2 (200 + nm) (400 + nm) c 10 W 7).1 := z_ni r5 (by omega)
  have a4 : z_ar (zAa g2 (200 + nm) (400 + nm) c 10 W 7) (400 + nm) 0 W := zAa_ar (t := 0)
  have f7 : z_rf (zAa g2 (200 + nm) (400 + nm) c 10 W 7) (200 + nm) 7 (400 + nm) := zAa_rf (by omega)
  have f62 : z_rf (zAa g2 (200 + nm) (400 + nm) c 10 W 7) (200 + nm) 6 (300 + nm) := zAa_rk (by omega) (by decide) f6
  generalize hg3 : zAa g2 (200 + nm) (400 + nm) c 10 W 7 = g3 at e2 s5 a4 f7 f62 ⊢
  have e3 : zEx (200 + nm) g3 (zAa g3 (200 + nm) (500 + nm) d 10 RL 8) := zEx_aa s5
  have a5 : z_ar (zAa g3 (200 + nm) (500 + nm) d 10 RL 8) (500 + nm) 0 RL := zAa_ar (t := 0)
  have f8 : z_rf (zAa g3 (200 + nm) (500 + nm) d 10 RL 8) (200 + nm) 8 (500 + nm) := zAa_rf (by omega)
  have f73 : z_rf (zAa g3 (200 + nm) (500 + nm) d 10 RL 8) (200 + nm) 7 (400 + nm) := zAa_rk (by omega) (by decide) f7
  have f63 : z_rf (zAa g3 (200 + nm) (500 + nm) d 10 RL 8) (200 + nm) 6 (300 + nm) := zAa_rk (by omega) (by decide) f62
  generalize hg4 : zAa g3 (200 + nm) (500 + nm) d 10 RL 8 = g4 at e3 a5 f8 f73 f63 ⊢
  have m1 : ∀ i ∈ g.1, i ≠ 200 + nm := fun i hi q => h2 (q ▸ hi)
  have eA : zEx 20 g g4 := by
    intro i hi
    have h1 := e0 i hi
    have h2' := e1 i h1.1
    have h3' := e2 i h2'.1
    have h4' := e3 i h3'.1
    refine ⟨h4'.1, by rw [h4'.2.1, h3'.2.1, h2'.2.1, h1.2.1], by rw [h4'.2.2.1, h3'.2.2.1, h2'.2.2.1, h1.2.2.1], by rw [h4'.2.2.2.1, h3'.2.2.2.1, h2'.2.2.2.1, h1.2.2.2.1], fun h20 k => ?_⟩
    rw [h4'.2.2.2.2 (m1 i hi), h3'.2.2.2.2 (m1 i hi), h2'.2.2.2.2 (m1 i hi), h1.2.2.2.2 h20]
  have m20 : (20 : Nat) ∈ g.1 := (zsa_20 hS).1
  have e20 : ∀ k, g4.2.2.2.2 20 k = g.2.2.2.2 20 k := by
    intro k
    have h1 := e0 20 m20
    have h2' := e1 20 h1.1
    have h3' := e2 20 h2'.1
    have h4' := e3 20 h3'.1
    rw [h4'.2.2.2.2 (by omega), h3'.2.2.2.2 (by omega), h2'.2.2.2.2 (by omega), ← hg1]
    show (if 20 = 200 + nm then 0 else g.2.2.2.2 20 k) = _
    rw [if_neg (by omega)]
  have o4 : z_ob g4 (200 + nm) 3 := z_ob_ex e3 (z_ob_ex e2 (z_ob_ex e1 o0))
  have a34 : z_ar g4 (300 + nm) 0 W := z_ar_ex e3 (z_ar_ex e2 a3)
  have a44 : z_ar g4 (400 + nm) 0 W := z_ar_ex e3 a4
  have l3 : (z_gr g4 20 nm (200 + nm)).2.2.2.1 (300 + nm) = W := a34.2.2
  have l5 : (z_gr g4 20 nm (200 + nm)).2.2.2.1 (500 + nm) = RL := a5.2.2
  have eB : zEx 20 g (z_gr g4 20 nm (200 + nm)) := zEx_t eA zEx_gr
  have le : ∀ i, i ∈ g.1 → (z_gr g4 20 nm (200 + nm)).2.2.2.1 i = g.2.2.2.1 i := fun i hi => (eB i hi).2.2.2.1
  refine ⟨⟨by omega, fun m hm => ?_, fun m hm => ?_⟩, l3, l5, le, eB⟩
  · by_cases e : m = nm
    · subst e
      refine ⟨z_ob_gr o4, zrf_at (by omega), zrf_gr (by omega) f63, zrf_gr (by omega) f73, zrf_gr (by omega) f8, ?_, ?_, ?_⟩
      · rw [l3]; exact a34
      · rw [l3]; exact a44
      · rw [l5]; exact a5
    · obtain ⟨k1, k2, k3, k4, k5, k6, k7, k8⟩ := hG.2.1 m (by omega)
      refine ⟨z_ob_ex eB k1, ?_, z_rf_ex eB k1.1 (by omega) k3, z_rf_ex eB k1.1 (by omega) k4, z_rf_ex eB k1.1 (by omega) k5, ?_, ?_, ?_⟩
      · exact ⟨by show z_upR _ 20 nm (200 + nm) 20 m = _; unfold z_upR; rw [if_pos rfl, if_neg e, e20]; exact k2.1, k2.2⟩
      · rw [le _ k6.1]; exact z_ar_ex eB k6
      · rw [le _ k6.1]; exact z_ar_ex eB k7
      · rw [le _ k8.1]; exact z_ar_ex eB k8
  · show z_upR _ 20 nm (200 + nm) 20 m = 0
    unfold z_upR; rw [if_pos rfl, if_neg (by omega), e20]; exact hG.2.2 m (by omega)
theorem tX6_fillB {l : Launch} {D : va_G} {cy : Nat → ClassId} {z0 : zRg} {g : zSh} {σ : zIn} {ru pl cd vw ni nd ne : Nat} {lt dd : Nat → Nat} (b : Bool) (key : Nat) (hS : zS g) (hDr : zDr σ ni lt nd dd) (hru : z_ob g ru 7) (hRl : zRl σ ru pl cd vw) (he : σ 2 5 = nI ne) (he2 : ne ≤ 40) (hC : ∀ k, k < ne → zwd (σ 4 k)) (hU : ∀ p m j k, j < ne → k < ne → 1 ≤ m → m ≤ 4 → zmt (σ 5) (σ 12) j p m → zmt (σ 5) (σ 12) k p m → j = k) (hkey : key ≤ 39) (hru9 : ru = 18 ∨ 140 ≤ ru) : z_Ct l D cy z0 MX6_fill [.ref (g.2.1 7), .ref (g.2.1 11), .int (nI key), .ref (g.2.1 ru), .int (zb b)] g σ (fun v g' σ' => v = none ∧ g' = g ∧ ∃ cdw paid many L, zFil σ σ' ne ni nd lt dd pl cd vw key b cdw paid many L) := by
  cases b
  · exact tX6_fill0 key hS hDr hru hRl he he2 hC hU hkey hru9
  · exact tX6_fill1 key hS hDr hru hRl he he2 hC hU hkey hru9
theorem zcome_ne {g : zSh} {σ : zIn} {m o lg : Nat} {hc fb : Bool} {i : Nat} (h : i ≠ 200 + m) : zcome g σ m o hc fb lg i = σ i := by
  unfold zcome
  split
  · rw [z_up_ne h, z_up_ne h, z_up_ne h]
  · split
    · rw [z_up_ne h, z_up_ne h, z_up_ne h]
    · rw [z_up_ne h, z_up_ne h]
abbrev NX8_send : zM := (yX8_send, cX8_send, 7, (some .int), 6, 5, 75, 146)
set_option maxHeartbeats 4000000 in
set_option maxRecDepth 100000 in
theorem tX8_send {l : Launch} {D : va_G} {cy : Nat → ClassId} {z0 : zRg} {g : zSh} {σ : zIn} (hfl : l.stackTraces = false) {no nc nm nu mi ni nd ne : Nat} {dy lt dd ky ad ot rt sp : Nat → Nat} {br fb : Nat → Bool} (b : Bool) (xa xb xk : Int32) (hS : zS g) (hO : zO g no) (hno : σ 13 4 = nI no) (hK : zC g nc) (hnc : σ 13 5 = nI nc) (hG : zG g nm) (hnm : σ 1 8 = nI nm) (hU : zU g nu) (hnu : σ 1 7 = nI nu) (hmi : σ 1 9 = nI mi) (hmi2 : mi ≤ 1000000) (hRu : zRu σ nu dy) (hDr : zDr σ ni lt nd dd) (he : σ 2 5 = nI ne) (he2 : ne ≤ 40) (hC : ∀ k, k < ne → zwd (σ 4 k)) (hPU : ∀ p m j k, j < ne → k < ne → 1 ≤ m → m ≤ 4 → zmt (σ 5) (σ 12) j p m → zmt (σ 5) (σ 12) k p m → j = k) (hky : ∀ o, o < no → σ (100 + o) 1 = nI (ky o) ∧ ky o ≤ 39) (hRq : ∀ j, j = 18 ∨ (∃ k, k < nu ∧ j = 140 + k) → ∃ pl cd vw, zRl σ j pl cd vw) (hcb : zCb σ nc no ad ot rt sp br) (hfb : ∀ o, o < no → σ (100 + o) 2 = zb (fb o)) (hw : z_wf g) (hn2 : 200 + nm ∉ g.1) (hn3 : 300 + nm ∉ g.1) (hn4 : 400 + nm ∉ g.1) (hn5 : 500 + nm ∉ g.1) : z_Cx l D cy z0 NX8_send [.ref (g.2.1 1), .int xa, .int xb, .int xk, .int (zb b)] g σ (fun v g' σ' => zx_send no nd nm (∃ l, zroute ad ot rt br nc no (zn xa) (zn xb) l) xa xb xk = 0 ∧ v = some (.int (nI nm)) ∧ ∃ fm2 to2 l2 j pl cd vw cdw paid many L s1 s2 s4 s5 a4 b4 c4 d4, fm2 < no ∧ xa = nI fm2 ∧ to2 < no ∧ xb = nI to2 ∧ fm2 ≠ to2 ∧ ¬ (xk < 0 ∨ 2 < xk) ∧ 0 < nd ∧ nm < 60 ∧ zroute ad ot rt br nc no fm2 to2 l2 ∧ l2.length < 8 ∧ zfR σ s1 ∧ s1 13 6 = nI l2.length ∧ (∀ i, i < l2.length → s1 17 i = nI (l2.getD i 0) ∧ l2.getD i 0 < nc) ∧ zrat s1 dy (mi / 1440) nu fm2 j ∧ zRl s1 j pl cd vw ∧ zFil s1 s2 ne ni nd lt dd pl cd vw (ky fm2) b cdw paid many L ∧ g' = zSh5 g nm a4 b4 c4 d4 L.length l2.length ∧ zMn (z_zero s2 (200 + nm)) s4 nm xa xb xk many L.length l2.length (zsum (fun i => rt (l2.getD i 0)) l2.length) ∧ zF3 (z_up (z_up s4 1 8 (nI (nm + 1))) 11 1 (nI 0)) s5 ∧ (∀ o, o < no → s5 (100 + o) 3 = (if fm2 = o then (z_up (z_up s4 1 8 (nI (nm + 1))) 11 1 (nI 0)) (100 + o) 3 - (z_up (z_up s4 1 8 (nI (nm + 1))) 11 1 (nI 0)) (200 + nm) 4 else (z_up (z_up s4 1 8 (nI (nm + 1))) 11 1 (nI 0)) (100 + o) 3) + zgot (z_up (z_up s4 1 8 (nI (nm + 1))) 11 1 (nI 0)) ad (fun i => l2.getD i 0) nm o l2.length) ∧ σ' = zcome g' s5 nm fm2 (decide (0 < many)) (fb fm2) 0) (fun E g' σ' => zXk ["java/lang/IndexOutOfBoundsException", "java/lang/IllegalArgumentException", "java/lang/IllegalStateException"] (zx_send no nd nm (∃ l, zroute ad ot rt br nc no (zn xa) (zn xb) l) xa xb xk) E ∧ g' = g ∧ zfR σ σ') := by
  have hn8 := hO.1
  have hn12 := hK.1
  have hn60 := hG.1
  have hu12 := hU.1
  have hd24 := hDr.2.2.2.2.1
  refine z_ofX hfl (by decide) (z_cr (z_ci (z_ci (z_ci (z_ci z_c0))))) (Nat.le_of_ble_eq_true rfl) ?_
  intro p e s m args below meth c X Y
  refine z_aload_n X dX8_send_0 rfl ?_
  refine z_getr2 X fX8_35 (zso_1 hS) (zsr_1_3 hS) rfl dX8_send_1 ?_
  refine z_iload_n X dX8_send_4 rfl ?_
  cases hz1 : zin xa no
  · skip
    skip
    refine z_runV X kX8_138 (tX4_officeAtN xa hS hO hno hz1) (zso_13 hS) rfl rfl (Nat.le_of_ble_eq_true rfl) ⟨by decide, by decide⟩ ⟨by decide, by decide⟩ dX8_send_5 ?_
    rintro _ g1 s1 ⟨rfl, h8, h9⟩
    replace h8 := h8.symm
    subst h8
    replace h9 := h9.symm
    subst h9
    refine z_astoreN X dX8_send_8 (by decide) ?_
    refine z_aloadN X dX8_send_10 rfl ?_
    refine z_ifnullN (tgt := 26) X dX8_send_12 (by decide) ?_
    refine z_throw X Y (cls := "java/lang/IndexOutOfBoundsException") (text := "no such office") (names := zENs) (by decide +kernel) (by decide +kernel) (z_gd 248 (by decide +kernel) (by decide +kernel)) (z_gd 40 (by decide +kernel) (by decide +kernel)) (List.mem_of_getElem? (i := 410) (by decide +kernel)) zat_IndexOutOfBoundsException dX8_send_26 dX8_send_29 dX8_send_30 dX8_send_32 dX8_send_35 (by decide) (by decide) (Nat.le_of_ble_eq_true rfl) (Nat.le_of_ble_eq_true rfl) (Nat.le_of_ble_eq_true rfl) (Nat.le_of_ble_eq_true rfl) ?_
    exact ⟨⟨0, by unfold zx_send; rw [if_pos (by simp_all)], rfl⟩, rfl, fun _ _ _ _ => rfl, fun _ _ => rfl⟩
  · skip
    obtain ⟨fm, hfm9, rfl⟩ := zin_t hz1 (by have := hO.1; omega)
    have hF1 := hO.2.1 fm hfm9
    refine z_runV X kX8_138 (tX4_officeAt fm hS hO hno hfm9) (zso_13 hS) rfl rfl (Nat.le_of_ble_eq_true rfl) ⟨by decide, by decide⟩ ⟨by decide, by decide⟩ dX8_send_5 ?_
    rintro _ g1 s1 ⟨rfl, h8, h9⟩
    replace h8 := h8.symm
    subst h8
    replace h9 := h9.symm
    subst h9
    refine z_astore X dX8_send_8 (by decide) ?_
    refine z_aload X dX8_send_10 rfl ?_
    refine z_ifnull X dX8_send_12 ?_
    refine z_aload_n X dX8_send_15 rfl ?_
    refine z_getr2 X fX8_35 (zso_1 hS) (zsr_1_3 hS) rfl dX8_send_16 ?_
    refine z_iload_n X dX8_send_19 rfl ?_
    cases hz2 : zin xb no
    · skip
      skip
      refine z_runV X kX8_138 (tX4_officeAtN xb hS hO hno hz2) (zso_13 hS) rfl rfl (Nat.le_of_ble_eq_true rfl) ⟨by decide, by decide⟩ ⟨by decide, by decide⟩ dX8_send_20 ?_
      rintro _ g1 s1 ⟨rfl, h8, h9⟩
      replace h8 := h8.symm
      subst h8
      replace h9 := h9.symm
      subst h9
      refine z_ifnonnullN X dX8_send_23 ?_
      refine z_throw X Y (cls := "java/lang/IndexOutOfBoundsException") (text := "no such office") (names := zENs) (by decide +kernel) (by decide +kernel) (z_gd 248 (by decide +kernel) (by decide +kernel)) (z_gd 40 (by decide +kernel) (by decide +kernel)) (List.mem_of_getElem? (i := 410) (by decide +kernel)) zat_IndexOutOfBoundsException dX8_send_26 dX8_send_29 dX8_send_30 dX8_send_32 dX8_send_35 (by decide) (by decide) (Nat.le_of_ble_eq_true rfl) (Nat.le_of_ble_eq_true rfl) (Nat.le_of_ble_eq_true rfl) (Nat.le_of_ble_eq_true rfl) ?_
      exact ⟨⟨0, by unfold zx_send; rw [if_pos (by simp_all)], rfl⟩, rfl, fun _ _ _ _ => rfl, fun _ _ => rfl⟩
    · skip
      obtain ⟨to, hto9, rfl⟩ := zin_t hz2 (by have := hO.1; omega)
      have hF2 := hO.2.1 to hto9
      refine z_runV X kX8_138 (tX4_officeAt to hS hO hno hto9) (zso_13 hS) rfl rfl (Nat.le_of_ble_eq_true rfl) ⟨by decide, by decide⟩ ⟨by decide, by decide⟩ dX8_send_20 ?_
      rintro _ g1 s1 ⟨rfl, h8, h9⟩
      replace h8 := h8.symm
      subst h8
      replace h9 := h9.symm
      subst h9
      refine z_ifnonnull (tgt := 36) X dX8_send_23 (by decide) ?_
      refine z_iload_n X dX8_send_36 rfl ?_
      refine z_iload_n X dX8_send_37 rfl ?_
      refine z_icmp_eq (tgt := 50) X dX8_send_38 (by decide) (fun c_38 => ?_) (fun c_38 => ?_)
      · skip
        try simp (disch := omega) only [zk0, nI_leI, nI_ltI, nI_eq, zbk_notn, zbk_not, zbk_n0, zbk_0, zb_0, zb_n0, zb_not, zb_notn, Bool.not_eq_false, Bool.not_eq_true, Bool.not_eq_true', Bool.not_eq_false', decide_eq_true_eq, decide_eq_false_iff_not, Classical.not_not] at c_38
        refine z_throw X Y (cls := "java/lang/IllegalArgumentException") (text := "both offices are one, or kind is out of range") (names := zENs) (by decide +kernel) (by decide +kernel) (z_gd 321 (by decide +kernel) (by decide +kernel)) (z_gd 38 (by decide +kernel) (by decide +kernel)) (List.mem_of_getElem? (i := 710) (by decide +kernel)) zat_IllegalArgumentException dX8_send_50 dX8_send_53 dX8_send_54 dX8_send_56 dX8_send_59 (by decide) (by decide) (Nat.le_of_ble_eq_true rfl) (Nat.le_of_ble_eq_true rfl) (Nat.le_of_ble_eq_true rfl) (Nat.le_of_ble_eq_true rfl) ?_
        exact ⟨⟨1, by unfold zx_send; rw [if_neg (fun q => q ⟨hz1, hz2⟩), if_pos (by first | exact Or.inl c_38 | exact Or.inl (by rw [c_38]) | exact Or.inr c_47)], rfl⟩, rfl, fun _ _ _ _ => rfl, fun _ _ => rfl⟩
      · skip
        try simp (disch := omega) only [zk0, nI_leI, nI_ltI, nI_eq, zbk_notn, zbk_not, zbk_n0, zbk_0, zb_0, zb_n0, zb_not, zb_notn, Bool.not_eq_false, Bool.not_eq_true, Bool.not_eq_true', Bool.not_eq_false', decide_eq_true_eq, decide_eq_false_iff_not, Classical.not_not] at c_38
        refine z_iload_n X dX8_send_41 rfl ?_
        refine z_iconst (v := 0) X (by decide) dX8_send_42 ?_
        refine z_iconst (v := 2) X (by decide) dX8_send_43 ?_
        refine z_runS X kX8_68 (tX8_isOutside _ _ _) rfl rfl (Nat.le_of_ble_eq_true rfl) ⟨by decide, by decide⟩ ⟨by decide, by decide⟩ dX8_send_44 ?_
        rintro _ g1 s1 ⟨rfl, h8, h9⟩
        replace h8 := h8.symm
        subst h8
        replace h9 := h9.symm
        subst h9
        refine z_if_eq (tgt := 60) X dX8_send_47 (by decide) (fun c_47 => ?_) (fun c_47 => ?_)
        · skip
          try simp (disch := omega) only [zb_notn, zb_not, zb_n0, zb_0, Bool.not_eq_false, Bool.not_eq_true, Bool.not_eq_true', Bool.not_eq_false', decide_eq_true_eq, decide_eq_false_iff_not, Classical.not_not] at c_47
          refine z_aload_n X dX8_send_60 rfl ?_
          refine z_getr2 X fX8_28 (zso_1 hS) (zsr_1_2 hS) rfl dX8_send_61 ?_
          refine z_geti X fX8_198 (zso_11 hS) rfl dX8_send_64 ?_
          rw [hDr.2.2.2.1]
          refine z_if_eq (tgt := 94) X dX8_send_67 (by decide) (fun c_67 => ?_) (fun c_67 => ?_)
          · skip
            try simp (disch := omega) only [zk0, nI_leI, nI_ltI, nI_eq, zbk_notn, zbk_not, zbk_n0, zbk_0, zb_0, zb_n0, zb_not, zb_notn, Bool.not_eq_false, Bool.not_eq_true, Bool.not_eq_true', Bool.not_eq_false', decide_eq_true_eq, decide_eq_false_iff_not, Classical.not_not] at c_67
            refine z_throw X Y (cls := "java/lang/IllegalStateException") (text := "the draft is empty, there is no route, or there are 60 messages") (names := zENs) (by decide +kernel) (by decide +kernel) (z_gd 559 (by decide +kernel) (by decide +kernel)) (z_gd 39 (by decide +kernel) (by decide +kernel)) (List.mem_of_getElem? (i := 749) (by decide +kernel)) zat_IllegalStateException dX8_send_94 dX8_send_97 dX8_send_98 dX8_send_100 dX8_send_103 (by decide) (by decide) (Nat.le_of_ble_eq_true rfl) (Nat.le_of_ble_eq_true rfl) (Nat.le_of_ble_eq_true rfl) (Nat.le_of_ble_eq_true rfl) ?_
            have hne9 : ¬ (nI fm = nI to ∨ (xk < 0 ∨ 2 < xk)) := fun q => q.elim (fun q => c_38 ((nI_eq (by omega) (by omega)).mp q)) c_47
            first
            | exact ⟨⟨2, by unfold zx_send; rw [if_neg (fun q => q ⟨hz1, hz2⟩), if_neg hne9, zif_t (Or.inl c_67)], rfl⟩, rfl, fun _ _ _ _ => rfl, fun _ _ => rfl⟩
            | exact ⟨⟨2, by unfold zx_send; rw [if_neg (fun q => q ⟨hz1, hz2⟩), if_neg hne9, zif_t (Or.inr (Or.inl (by omega)))], rfl⟩, rfl, fun _ _ _ _ => rfl, fun _ _ => rfl⟩
            | exact ⟨⟨2, by unfold zx_send; rw [if_neg (fun q => q ⟨hz1, hz2⟩), if_neg hne9, zif_t (Or.inr (Or.inr (fun ⟨l5, q⟩ => by rw [zn_nI (by omega), zn_nI (by omega)] at q; have h1 := hbf c_91 l5 q; have h2 := zpath_len7 (fun c hc => ⟨(hcb c hc).2.1, (hcb c hc).2.2.2.1⟩) hfm9 q; omega)))], rfl⟩, rfl, hr1, hr13⟩
          · skip
            try simp (disch := omega) only [zk0, nI_leI, nI_ltI, nI_eq, zbk_notn, zbk_not, zbk_n0, zbk_0, zb_0, zb_n0, zb_not, zb_notn, Bool.not_eq_false, Bool.not_eq_true, Bool.not_eq_true', Bool.not_eq_false', decide_eq_true_eq, decide_eq_false_iff_not, Classical.not_not] at c_67
            refine z_aload_n X dX8_send_70 rfl ?_
            refine z_geti X fX8_62 (zso_1 hS) rfl dX8_send_71 ?_
            rw [hnm]
            refine z_aload_n X dX8_send_74 rfl ?_
            refine z_getr2 X fX8_54 (zso_1 hS) (zsr_1_6 hS) rfl dX8_send_75 ?_
            refine z_alen X (t := 4) (by decide) (zsa_20 hS) dX8_send_78 ?_
            refine z_icmp_ge (tgt := 94) X dX8_send_79 (by decide) (fun c_79 => ?_) (fun c_79 => ?_)
            · skip
              try simp (disch := omega) only [zk0, nI_leI, nI_ltI, nI_eq, zbk_notn, zbk_not, zbk_n0, zbk_0, zb_0, zb_n0, zb_not, zb_notn, Bool.not_eq_false, Bool.not_eq_true, Bool.not_eq_true', Bool.not_eq_false', decide_eq_true_eq, decide_eq_false_iff_not, Classical.not_not] at c_79
              refine z_throw X Y (cls := "java/lang/IllegalStateException") (text := "the draft is empty, there is no route, or there are 60 messages") (names := zENs) (by decide +kernel) (by decide +kernel) (z_gd 559 (by decide +kernel) (by decide +kernel)) (z_gd 39 (by decide +kernel) (by decide +kernel)) (List.mem_of_getElem? (i := 749) (by decide +kernel)) zat_IllegalStateException dX8_send_94 dX8_send_97 dX8_send_98 dX8_send_100 dX8_send_103 (by decide) (by decide) (Nat.le_of_ble_eq_true rfl) (Nat.le_of_ble_eq_true rfl) (Nat.le_of_ble_eq_true rfl) (Nat.le_of_ble_eq_true rfl) ?_
              have hne9 : ¬ (nI fm = nI to ∨ (xk < 0 ∨ 2 < xk)) := fun q => q.elim (fun q => c_38 ((nI_eq (by omega) (by omega)).mp q)) c_47
              first
              | exact ⟨⟨2, by unfold zx_send; rw [if_neg (fun q => q ⟨hz1, hz2⟩), if_neg hne9, zif_t (Or.inl c_67)], rfl⟩, rfl, fun _ _ _ _ => rfl, fun _ _ => rfl⟩
              | exact ⟨⟨2, by unfold zx_send; rw [if_neg (fun q => q ⟨hz1, hz2⟩), if_neg hne9, zif_t (Or.inr (Or.inl (by omega)))], rfl⟩, rfl, fun _ _ _ _ => rfl, fun _ _ => rfl⟩
              | exact ⟨⟨2, by unfold zx_send; rw [if_neg (fun q => q ⟨hz1, hz2⟩), if_neg hne9, zif_t (Or.inr (Or.inr (fun ⟨l5, q⟩ => by rw [zn_nI (by omega), zn_nI (by omega)] at q; have h1 := hbf c_91 l5 q; have h2 := zpath_len7 (fun c hc => ⟨(hcb c hc).2.1, (hcb c hc).2.2.2.1⟩) hfm9 q; omega)))], rfl⟩, rfl, hr1, hr13⟩
            · skip
              try simp (disch := omega) only [zk0, nI_leI, nI_ltI, nI_eq, zbk_notn, zbk_not, zbk_n0, zbk_0, zb_0, zb_n0, zb_not, zb_notn, Bool.not_eq_false, Bool.not_eq_true, Bool.not_eq_true', Bool.not_eq_false', decide_eq_true_eq, decide_eq_false_iff_not, Classical.not_not] at c_79
              refine z_aload_n X dX8_send_82 rfl ?_
              refine z_getr2 X fX8_35 (zso_1 hS) (zsr_1_3 hS) rfl dX8_send_83 ?_
              refine z_iload_n X dX8_send_86 rfl ?_
              refine z_iload_n X dX8_send_87 rfl ?_
              refine z_runV X kX8_210 (tX4_findRoute fm to hS hK hnc hO hno hcb (by omega) hfm9 hto9) (zso_13 hS) rfl rfl (Nat.le_of_ble_eq_true rfl) ⟨by decide, by decide⟩ ⟨by decide, by decide⟩ dX8_send_88 ?_
              rintro _ g1 s1 ⟨b9, d9, hd9, rfl, h8, hr1, hr13, hbt, hbf⟩
              replace h8 := h8.symm
              subst h8
              subst hd9
              refine z_if_ne (tgt := 104) X dX8_send_91 (by decide) (fun c_91 => ?_) (fun c_91 => ?_)
              · skip
                try simp (disch := omega) only [zb_notn, zb_not, zb_n0, zb_0, Bool.not_eq_false, Bool.not_eq_true, Bool.not_eq_true', Bool.not_eq_false', decide_eq_true_eq, decide_eq_false_iff_not, Classical.not_not] at c_91
                obtain ⟨l9, hp9, hl8, h136, h17⟩ := hbt c_91
                have hE9 : ∀ c, c < nc → ad c < no ∧ ot c < no := fun c hc => ⟨(hcb c hc).2.1, (hcb c hc).2.2.2.1⟩
                have hl7 : l9.length < 8 := Nat.lt_of_lt_of_le (zpath_len7 hE9 hfm9 hp9) (by omega)
                have e1 : ∀ i, (i ≠ 13 ∧ i ≠ 16 ∧ i ≠ 17) → s1 i = σ i := fun i h => hr1 i h.1 h.2.1 h.2.2
                have hDr1 : zDr s1 ni lt nd dd := zDr_eq hDr (e1 2 (by decide)) (e1 3 (by decide)) (e1 11 (by decide)) (e1 12 (by decide))
                have he1 : s1 2 5 = nI ne := by rw [e1 2 (by decide)]; exact he
                have hC1 : ∀ k, k < ne → zwd (s1 4 k) := by rw [e1 4 (by decide)]; exact hC
                have hPU1 : ∀ p m j k, j < ne → k < ne → 1 ≤ m → m ≤ 4 → zmt (s1 5) (s1 12) j p m → zmt (s1 5) (s1 12) k p m → j = k := by rw [e1 5 (by decide), e1 12 (by decide)]; exact hPU
                have hky1 : s1 (100 + fm) 1 = nI (ky fm) := by rw [e1 (100 + fm) (by omega)]; exact (hky fm hfm9).1
                have hnu1 : s1 1 7 = nI nu := by rw [e1 1 (by decide)]; exact hnu
                have hmi1 : s1 1 9 = nI mi := by rw [e1 1 (by decide)]; exact hmi
                have hRu1 : zRu s1 nu dy := fun k hk => by rw [e1 (140 + k) (by omega)]; exact hRu k hk
                refine z_aload_n X dX8_send_104 rfl ?_
                refine z_getr2 X fX8_21 (zso_1 hS) (zsr_1_1 hS) rfl dX8_send_105 ?_
                refine z_aload_n X dX8_send_108 rfl ?_
                refine z_getr2 X fX8_28 (zso_1 hS) (zsr_1_2 hS) rfl dX8_send_109 ?_
                refine z_aload X dX8_send_112 rfl ?_
                refine z_geti X fX8_174 (hF1.1) rfl dX8_send_114 ?_
                rw [hky1]
                refine z_aload_n X dX8_send_117 rfl ?_
                refine z_aload X dX8_send_118 rfl ?_
                refine z_runV X kX8_186 (tX8_rulesAt hS hU hnu1 hmi1 hmi2 hRu1 hO hfm9) (zso_1 hS) rfl rfl (Nat.le_of_ble_eq_true rfl) ⟨by decide, by decide⟩ ⟨by decide, by decide⟩ dX8_send_120 ?_
                rintro _ g1 s1 ⟨j9, rfl, h8, h9, hj9⟩
                replace h8 := h8.symm
                subst h8
                replace h9 := h9.symm
                subst h9
                have hj7 := zrat_ob hS hU hj9
                have hj8 : j9 = 18 ∨ 140 ≤ j9 := by rcases zrat_or hj9 with q | ⟨k, -, q⟩ <;> omega
                obtain ⟨pl, cd, vw, hRl⟩ := hRq j9 (zrat_or hj9)
                have hRl1 := zRl_eq hRl (e1 j9 (by omega))
                refine z_iload X dX8_send_123 rfl ?_
                refine z_runV X kX8_201 (tX6_fillB b (ky fm) hS hDr1 hj7 hRl1 he1 he2 hC1 hPU1 (hky fm hfm9).2 hj8) (zso_7 hS) rfl rfl (Nat.le_of_ble_eq_true rfl) ⟨by decide, by decide⟩ ⟨by decide, by decide⟩ dX8_send_125 ?_
                rintro _ g1 s2 ⟨rfl, h8, cdw, paid, many, L9, hFl⟩
                replace h8 := h8.symm
                subst h8
                refine z_new X (i := (200 + nm)) nX8_52 hw hn2 (by omega) (Nat.le_of_ble_eq_true rfl) (Nat.le_of_ble_eq_true rfl) dX8_send_128 (fun a128 => ?_)
                obtain ⟨gN, hgN⟩ : ∃ g1, g1 = z_add g (200 + nm) a128 3 0 := ⟨_, rfl⟩
                rw [show z_add g (200 + nm) a128 3 0 = gN from hgN.symm]
                have ea : a128 = gN.2.1 ((200 + nm)) := by rw [hgN]; exact z_add_at.symm
                rw [ea]
                have e00 : g.2.1 1 = gN.2.1 1 := by rw [hgN]; exact (z_add_ne (by omega)).symm
                rw [e00]
                have e01 : g.2.1 (100 + fm) = gN.2.1 (100 + fm) := by rw [hgN]; exact (z_add_ne (by omega)).symm
                rw [e01]
                have hNew : z_ob gN ((200 + nm)) 3 := by rw [hgN]; exact z_ob_at
                have hEN : zEx (200 + nm) g gN := by rw [hgN]; exact zEx_add hn2
                have hSN : zS gN := zS_ex hEN (by omega) hS
                have hCN : zC gN nc := zC_ex hEN (by omega) hS hK
                have hON : zO gN no := zO_ex hEN (by omega) hS hO
                have hwN : z_wf gN := by rw [hgN]; exact z_wf_add hw
                have hn3N : 300 + nm ∉ gN.1 := (by rw [hgN]; intro q; rcases List.mem_append.mp q with z | z; exact hn3 z; have := List.mem_singleton.mp z; omega)
                have hn4N : 400 + nm ∉ gN.1 := (by rw [hgN]; intro q; rcases List.mem_append.mp q with z | z; exact hn4 z; have := List.mem_singleton.mp z; omega)
                have hn5N : 500 + nm ∉ gN.1 := (by rw [hgN]; intro q; rcases List.mem_append.mp q with z | z; exact hn5 z; have := List.mem_singleton.mp z; omega)
                have e2 : ∀ i, (i ≠ 7 ∧ i ≠ 8 ∧ i ≠ 9 ∧ i ≠ 10) → s2 i = s1 i := fun i h => hFl.1 i h.1 h.2.1 h.2.2.1 h.2.2.2
                have hLn := hFl.2.2.2.2.2.2.2.2.1
                have hmn := hFl.2.2.2.2.2.2.2.2.2.2
                have hd24 := hDr.2.2.2.2.1
                refine z_dup X rfl dX8_send_131 ?_
                refine z_iload_n X dX8_send_132 rfl ?_
                refine z_iload_n X dX8_send_133 rfl ?_
                refine z_iload_n X dX8_send_134 rfl ?_
                refine z_aload_n X dX8_send_135 rfl ?_
                refine z_getr2 X fX8_21 (zso_1 hSN) (zsr_1_1 hSN) rfl dX8_send_136 ?_
                refine z_aload_n X dX8_send_139 rfl ?_
                refine z_getr2 X fX8_35 (zso_1 hSN) (zsr_1_3 hSN) rfl dX8_send_140 ?_
                refine z_runI X kX8_216 (tX3_init (nm := nm) (W := L9.length) (RL := l9.length) (nc := nc) (many := many) (ro := fun i => l9.getD i 0) (rt := rt) _ _ _ hSN hCN (by rw [z_zero_ne (by omega), e2 13 (by omega), hr13 5 (by decide)]; exact hnc) (by omega) hwN hNew hn3N hn4N hn5N (by rw [z_zero_ne (by omega)]; exact hFl.2.2.2.2.1) (by omega) (by rw [z_zero_ne (by omega)]; exact hFl.2.2.2.2.2.1) (by omega) (by rw [z_zero_ne (by omega), e2 13 (by omega)]; exact h136) hl7 (fun i hi => by rw [z_zero_ne (by omega), e2 17 (by omega)]; exact ⟨h17 i hi, zpath_lt hp9 i hi⟩) (fun c hc => by rw [z_zero_ne (by omega), e2 (120 + c) (by omega), e1 (120 + c) (by omega)]; exact (hcb c hc).2.2.2.2.2.1)) rfl rfl (Nat.le_of_ble_eq_true rfl) ⟨by decide, by decide⟩ ⟨by decide, by decide⟩ dX8_send_143 ?_
                rintro _ g4 s4 ⟨rfl, b4, c4, d4, hg4, hMn⟩
                have hE4 : zEx (200 + nm) gN g4 := by rw [hg4]; exact zEx_t (zEx_t (zEx_aa hn3N) (zEx_aa (z_ni hn4N (by omega)))) (zEx_aa (z_ni (z_ni hn5N (by omega)) (by omega)))
                have f40 : gN.2.1 1 = g4.2.1 1 := (hE4 1 (zso_1 hSN).1).2.1.symm
                rw [f40]
                have f41 : gN.2.1 (100 + fm) = g4.2.1 (100 + fm) := (hE4 _ (hON.2.1 fm hfm9).1.1).2.1.symm
                rw [f41]
                have f42 : gN.2.1 (200 + nm) = g4.2.1 (200 + nm) := (hE4 _ hNew.1).2.1.symm
                rw [f42]
                have hS4 : zS g4 := zS_ex hE4 (by omega) hSN
                have hob4 : z_ob g4 (200 + nm) 3 := z_ob_ex hE4 hNew
                have e4 : ∀ i, (i < 200 ∧ i ≠ 7 ∧ i ≠ 8 ∧ i ≠ 9 ∧ i ≠ 10 ∧ i ≠ 13 ∧ i ≠ 16 ∧ i ≠ 17) → s4 i = σ i := by
                  intro i h
                  rw [hMn.1 i (by omega) (by omega) (by omega) (by omega), z_zero_ne (by omega), e2 i (by omega), e1 i (by omega)]
                have e413 : ∀ k, k ≠ 6 → s4 13 k = σ 13 k := by
                  intro k h
                  rw [hMn.1 13 (by omega) (by omega) (by omega) (by omega), z_zero_ne (by omega), e2 13 (by omega), hr13 k h]
                have hnm4 : s4 1 8 = nI nm := by rw [e4 1 (by omega)]; exact hnm
                refine z_astore X dX8_send_146 (by decide) ?_
                refine z_aload_n X dX8_send_148 rfl ?_
                refine z_getr2 X fX8_54 (zso_1 hS4) (zsr_1_6 hS4) rfl dX8_send_149 ?_
                refine z_aload_n X dX8_send_152 rfl ?_
                refine z_geti X fX8_62 (zso_1 hS4) rfl dX8_send_153 ?_
                rw [hnm4]
                refine z_aload X dX8_send_156 rfl ?_
                refine z_aast X (t := 4) (ci := 3) (by decide) rfl (by decide) rfl (zsa_20 hS4) (by first | assumption | exact vp_in_nI (by omega) (by omega) | exact z_vin (by omega) (by omega)) hob4 (by omega) dX8_send_158 ?_
                rw [nI_clamp (by omega)]
                obtain ⟨gP, hgP⟩ : ∃ g1, g1 = z_gr g4 20 nm (200 + nm) := ⟨_, rfl⟩
                rw [show z_gr g4 20 nm (200 + nm) = gP from hgP.symm]
                have f50 : g4.2.1 1 = gP.2.1 1 := by rw [hgP]; rfl
                rw [f50]
                have f51 : g4.2.1 (100 + fm) = gP.2.1 (100 + fm) := by rw [hgP]; rfl
                rw [f51]
                have f52 : g4.2.1 (200 + nm) = gP.2.1 (200 + nm) := by rw [hgP]; rfl
                rw [f52]
                have hgS : gP = zSh5 g nm a128 b4 c4 d4 L9.length l9.length := by rw [hgP, hg4, hgN]
                obtain ⟨hGP, hl3, hl5, hle, hEx⟩ := zG_new (a := a128) (b := b4) (c := c4) (d := d4) (W := L9.length) (RL := l9.length) hS hG (by omega) hn2 hn3 hn4 hn5
                rw [← hgS] at hGP hl3 hl5 hle hEx
                have hSP : zS gP := by rw [hgP]; exact zS_gr (by decide) hS4
                have hOP : zO gP no := by rw [hgP]; exact zO_gr (Or.inl rfl) (zO_ex hE4 (by omega) hSN hON)
                have hCP : zC gP nc := by rw [hgP]; exact zC_gr (Or.inl rfl) (zC_ex hE4 (by omega) hSN hCN)
                refine z_aload_n X dX8_send_159 rfl ?_
                refine z_dup X rfl dX8_send_160 ?_
                refine z_geti X fX8_62 (zso_1 hSP) rfl dX8_send_161 ?_
                rw [hnm4]
                refine z_iconst (v := nI 1) X (by decide) dX8_send_164 ?_
                refine z_iaddN X dX8_send_165 ?_
                refine z_puti X fX8_62 (zso_1 hSP) rfl dX8_send_166 ?_
                refine z_aload_n X dX8_send_169 rfl ?_
                refine z_getr2 X fX8_28 (zso_1 hSP) (zsr_1_2 hSP) rfl dX8_send_170 ?_
                refine z_iconst (v := nI 0) X (by decide) dX8_send_173 ?_
                refine z_puti X fX8_198 (zso_11 hSP) rfl dX8_send_174 ?_
                obtain ⟨s6, hs6⟩ : ∃ q, q = z_up (z_up s4 1 8 (nI (nm + 1))) 11 1 (nI 0) := ⟨_, rfl⟩
                rw [show z_up (z_up s4 1 8 (nI (nm + 1))) 11 1 (nI 0) = s6 from hs6.symm]
                have e6 : ∀ i, (i < 200 ∧ i ≠ 1 ∧ i ≠ 11 ∧ i ≠ 7 ∧ i ≠ 8 ∧ i ≠ 9 ∧ i ≠ 10 ∧ i ≠ 13 ∧ i ≠ 16 ∧ i ≠ 17) → s6 i = σ i := by
                  intro i h
                  rw [hs6, z_up_ne (by omega), z_up_ne (by omega)]; exact e4 i (by omega)
                have m6 : ∀ i, 200 ≤ i → s6 i = s4 i := by
                  intro i h
                  rw [hs6, z_up_ne (by omega), z_up_ne (by omega)]
                have e613 : ∀ k, k ≠ 6 → s6 13 k = σ 13 k := by
                  intro k h
                  rw [hs6, z_up_ne (by omega), z_up_ne (by omega)]; exact e413 k h
                have h18 : s6 1 8 = nI (nm + 1) := by rw [hs6, z_up_ne (by omega), z_up_app, if_pos rfl, if_pos rfl]
                have hro6 : ∀ i, i < gP.2.2.2.1 (500 + nm) → s6 (500 + nm) i = nI (l9.getD i 0) ∧ l9.getD i 0 < nc := by
                  intro i hi
                  rw [hl5] at hi
                  refine ⟨?_, zpath_lt hp9 i hi⟩
                  rw [m6 _ (by omega), hMn.2.2.2.2.2.2.2.2.2.2.2.2 i hi, z_zero_ne (by omega), e2 17 (by omega)]
                  exact h17 i hi
                refine z_aload_n X dX8_send_177 rfl ?_
                refine z_aload X dX8_send_178 rfl ?_
                refine z_runV X kX8_219 (tX8_settle (ro := fun i => l9.getD i 0) (ad := ad) (fr := fm) (nm := nm + 1) hSP hOP (by rw [e613 4 (by decide)]; exact hno) hGP (by omega) hCP (by rw [e613 5 (by decide)]; exact hnc) hro6 (fun c hc => by rw [e6 (120 + c) (by omega)]; exact ⟨(hcb c hc).1, (hcb c hc).2.1⟩) (by rw [hl5]; omega) (by rw [m6 _ (by omega)]; exact hMn.2.1) hfm9) (zso_1 hSP) rfl rfl (Nat.le_of_ble_eq_true rfl) ⟨by decide, by decide⟩ ⟨by decide, by decide⟩ dX8_send_180 ?_
                rintro _ g1 s7 ⟨rfl, h8, h7, h7b⟩
                replace h8 := h8.symm
                subst h8
                refine z_aload_n X dX8_send_183 rfl ?_
                refine z_aload X dX8_send_184 rfl ?_
                refine z_iload_n X dX8_send_186 rfl ?_
                refine z_runV X kX8_223 (tX8_comeTo (nm := nm + 1) (hc := decide (0 < many)) (fb := fb fm) (lg := 0) fm hSP hOP (by rw [h7 13 4 (by omega), e613 4 (by decide)]; exact hno) hGP (by omega) hfm9 (by rw [h7 _ 5 (by omega), m6 _ (by omega)]; exact hMn.2.2.2.2.2.2.1) (by rw [h7 _ 2 (by omega), e6 (100 + fm) (by omega)]; exact hfb fm hfm9) (by rw [h7 _ 11 (by omega), m6 _ (by omega)]; exact hMn.2.2.2.2.2.2.2.2.2.1) (by decide) (by rw [hl5]; omega)) (zso_1 hSP) rfl rfl (Nat.le_of_ble_eq_true rfl) ⟨by decide, by decide⟩ ⟨by decide, by decide⟩ dX8_send_187 ?_
                rintro _ g1 s1 ⟨rfl, h8, h9⟩
                replace h8 := h8.symm
                subst h8
                replace h9 := h9.symm
                subst h9
                refine z_aload_n X dX8_send_190 rfl ?_
                refine z_geti X fX8_62 (zso_1 hSP) rfl dX8_send_191 ?_
                rw [zcome_ne (by omega), h7 1 8 (by omega), h18]
                refine z_iconst (v := nI 1) X (by decide) dX8_send_194 ?_
                refine z_isubN X (by omega) dX8_send_195 ?_
                refine z_rx ?_
                refine z_iret X (by decide) (by decide) rfl dX8_send_196 ?_
                have hne9 : ¬ (nI fm = nI to ∨ (xk < 0 ∨ 2 < xk)) := fun q => q.elim (fun q => c_38 ((nI_eq (by omega) (by omega)).mp q)) c_47
                refine ⟨by unfold zx_send; rw [if_neg (fun q => q ⟨hz1, hz2⟩), if_neg hne9, zif_f (fun q => by rcases q with q | q | q; exact c_67 q; omega; exact q ⟨l9, by rw [zn_nI (by omega), zn_nI (by omega)]; exact hp9⟩)], rfl, fm, to, l9, j9, pl, cd, vw, cdw, paid, many, L9, s1, s2, s4, s7, a128, b4, c4, d4, hfm9, rfl, hto9, rfl, fun q => c_38 q, c_47, by omega, by omega, hp9, hl7, ⟨hr1, hr13⟩, h136, fun i hi => ⟨h17 i hi, zpath_lt hp9 i hi⟩, hj9, hRl1, hFl, hgS, hMn, ?_, ?_, rfl⟩
                · rw [← hs6]; exact h7
                · rw [← hs6]
                  intro o ho
                  have := h7b o ho
                  rw [hl5] at this
                  exact this
              · skip
                try simp (disch := omega) only [zb_notn, zb_not, zb_n0, zb_0, Bool.not_eq_false, Bool.not_eq_true, Bool.not_eq_true', Bool.not_eq_false', decide_eq_true_eq, decide_eq_false_iff_not, Classical.not_not] at c_91
                refine z_throw X Y (cls := "java/lang/IllegalStateException") (text := "the draft is empty, there is no route, or there are 60 messages") (names := zENs) (by decide +kernel) (by decide +kernel) (z_gd 559 (by decide +kernel) (by decide +kernel)) (z_gd 39 (by decide +kernel) (by decide +kernel)) (List.mem_of_getElem? (i := 749) (by decide +kernel)) zat_IllegalStateException dX8_send_94 dX8_send_97 dX8_send_98 dX8_send_100 dX8_send_103 (by decide) (by decide) (Nat.le_of_ble_eq_true rfl) (Nat.le_of_ble_eq_true rfl) (Nat.le_of_ble_eq_true rfl) (Nat.le_of_ble_eq_true rfl) ?_
                have hne9 : ¬ (nI fm = nI to ∨ (xk < 0 ∨ 2 < xk)) := fun q => q.elim (fun q => c_38 ((nI_eq (by omega) (by omega)).mp q)) c_47
                first
                | exact ⟨⟨2, by unfold zx_send; rw [if_neg (fun q => q ⟨hz1, hz2⟩), if_neg hne9, zif_t (Or.inl c_67)], rfl⟩, rfl, fun _ _ _ _ => rfl, fun _ _ => rfl⟩
                | exact ⟨⟨2, by unfold zx_send; rw [if_neg (fun q => q ⟨hz1, hz2⟩), if_neg hne9, zif_t (Or.inr (Or.inl (by omega)))], rfl⟩, rfl, fun _ _ _ _ => rfl, fun _ _ => rfl⟩
                | exact ⟨⟨2, by unfold zx_send; rw [if_neg (fun q => q ⟨hz1, hz2⟩), if_neg hne9, zif_t (Or.inr (Or.inr (fun ⟨l5, q⟩ => by rw [zn_nI (by omega), zn_nI (by omega)] at q; have h1 := hbf c_91 l5 q; have h2 := zpath_len7 (fun c hc => ⟨(hcb c hc).2.1, (hcb c hc).2.2.2.1⟩) hfm9 q; omega)))], rfl⟩, rfl, hr1, hr13⟩
        · skip
          try simp (disch := omega) only [zb_notn, zb_not, zb_n0, zb_0, Bool.not_eq_false, Bool.not_eq_true, Bool.not_eq_true', Bool.not_eq_false', decide_eq_true_eq, decide_eq_false_iff_not, Classical.not_not] at c_47
          refine z_throw X Y (cls := "java/lang/IllegalArgumentException") (text := "both offices are one, or kind is out of range") (names := zENs) (by decide +kernel) (by decide +kernel) (z_gd 321 (by decide +kernel) (by decide +kernel)) (z_gd 38 (by decide +kernel) (by decide +kernel)) (List.mem_of_getElem? (i := 710) (by decide +kernel)) zat_IllegalArgumentException dX8_send_50 dX8_send_53 dX8_send_54 dX8_send_56 dX8_send_59 (by decide) (by decide) (Nat.le_of_ble_eq_true rfl) (Nat.le_of_ble_eq_true rfl) (Nat.le_of_ble_eq_true rfl) (Nat.le_of_ble_eq_true rfl) ?_
          exact ⟨⟨1, by unfold zx_send; rw [if_neg (fun q => q ⟨hz1, hz2⟩), if_pos (by first | exact Or.inl c_38 | exact Or.inl (by rw [c_38]) | exact Or.inr c_47)], rfl⟩, rfl, fun _ _ _ _ => rfl, fun _ _ => rfl⟩
