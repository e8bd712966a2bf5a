/-! contracts: the net, continued; messages, rules at an office -/
/-- cable c is the next one from office a, where the rest costs d -/
def zcn (ad ot rt : Nat → Nat) (br : Nat → Bool) (d : Nat → Nat) (a c : Nat) : Prop := br c = false ∧ (a = ad c ∨ a = ot c) ∧ d (zoe ad ot c a) + (rt c * 16 + 1) = d a
theorem zoe_i {ad ot : Nat → Nat} {c a : Nat} (ha : a < 2 ^ 31) (h1 : ad c < 2 ^ 31) {x y : Int32} (hx : x = nI (ad c)) (hy : y = nI (ot c)) : (if nI a = x then y else x) = nI (zoe ad ot c a) := by
  rw [hx, hy]; unfold zoe
  by_cases e : a = ad c
  · rw [if_pos (by rw [e]), if_pos e]
  · rw [if_neg (fun q => e ((nI_eq ha h1).mp q)), if_neg e]
set_option maxHeartbeats 4000000 in
set_option maxRecDepth 100000 in
theorem tX4_nextCable {l : Launch} {D : va_G} {cy : Nat → ClassId} {z0 : zRg} {g : zSh} {σ : zIn} {nc no : Nat} {ad ot rt sp : Nat → Nat} {br : Nat → Bool} {d : Nat → Nat} (a : Nat) (hS : zS g) (hK : zC g nc) (hnc : σ 13 5 = nI nc) (hcb : zCb σ nc no ad ot rt sp br) (hno8 : no ≤ 8) (hd : zco σ d) (ha : a < no) : z_Ct l D cy z0 MX4_nextCable [.ref (g.2.1 13), .int (nI a)] g σ (fun v g' σ' => ∃ r, v = some (.int r) ∧ g' = g ∧ σ' = σ ∧ ((∃ c, c < nc ∧ r = nI c ∧ d a < 1000000000 ∧ zcn ad ot rt br d a c ∧ ∀ j, j < c → ¬ zcn ad ot rt br d a j) ∨ (r = -1 ∧ (d a < 1000000000 → ∀ c, c < nc → ¬ zcn ad ot rt br d a c)))) := by
  have hda := hd a (by omega)
  have hk12 := hK.1
  refine z_ofM (by decide) (z_cr (z_ci z_c0)) (Nat.le_of_ble_eq_true rfl) ?_
  intro p e s m args below meth c X
  have loop_8 : ∀ (n : Nat) (c9 : Nat) (vv : Option Value) (hc : c9 ≤ nc) (hj : d a < 1000000000 → ∀ j, j < c9 → ¬ zcn ad ot rt br d a j) (hn : nc - c9 < n), z_V p l e (zRm MX4_nextCable) s m args below meth c 5 D cy z0 0 0 (zQm MX4_nextCable below D cy z0 (fun v g' σ' => ∃ r, v = some (.int r) ∧ g' = g ∧ σ' = σ ∧ ((∃ c, c < nc ∧ r = nI c ∧ d a < 1000000000 ∧ zcn ad ot rt br d a c ∧ ∀ j, j < c → ¬ zcn ad ot rt br d a j) ∨ (r = -1 ∧ (d a < 1000000000 → ∀ c, c < nc → ¬ zcn ad ot rt br d a c)))) args s) 8 [some (.ref (g.2.1 13)), some (.int (nI a)), some (.int (nI (d a))), some (.int (nI c9)), vv] [] g σ := by
    intro n
    induction n with
    | zero => intro c9 vv hc hj hn; exact absurd hn (Nat.not_lt_zero _)
    | succ n ih_8 =>
      intro c9 vv hc hj hn
      refine z_iload_n X dX4_nextCable_8 rfl ?_
      refine z_aload_n X dX4_nextCable_9 rfl ?_
      refine z_geti X fX4_34 (zso_13 hS) rfl dX4_nextCable_10 ?_
      try simp (disch := omega) only [z_up_app, z_put_app, reduceIte, Nat.reduceEqDiff, hnc]
      refine z_icmp_ge (tgt := 79) X dX4_nextCable_13 (by decide) (fun c_13 => ?_) (fun c_13 => ?_)
      · skip
        try simp (disch := omega) only [zk0, nI_leI, nI_ltI, nI_eq, zbk_notn, zbk_not, zbk_n0, zbk_0, zb_0, zb_n0, zb_not, zb_notn, Bool.not_eq_false, Bool.not_eq_true, Bool.not_eq_true', Bool.not_eq_false', decide_eq_true_eq, decide_eq_false_iff_not, Classical.not_not] at c_13
        refine z_iconst (v := -1) X (by decide) dX4_nextCable_79 ?_
        refine z_iret X (by decide) (by decide) rfl dX4_nextCable_80 ?_
        first
          | exact ⟨_, rfl, rfl, rfl, Or.inl ⟨c9, by omega, rfl, by omega, ⟨by assumption, by assumption, by assumption⟩, hj (by omega)⟩⟩
          | (refine ⟨_, rfl, rfl, rfl, Or.inl ⟨c9, ?_, rfl, ?_, ⟨c_39, c_48, c_68⟩, ?_⟩⟩; omega; omega; exact hj (by omega))
          | exact ⟨_, rfl, rfl, rfl, Or.inr ⟨rfl, fun hlt j hj9 => hj hlt j (by omega)⟩⟩
          | exact ⟨_, rfl, rfl, rfl, Or.inr ⟨rfl, fun hlt => by omega⟩⟩
      · skip
        try simp (disch := omega) only [zk0, nI_leI, nI_ltI, nI_eq, zbk_notn, zbk_not, zbk_n0, zbk_0, zb_0, zb_n0, zb_not, zb_notn, Bool.not_eq_false, Bool.not_eq_true, Bool.not_eq_true', Bool.not_eq_false', decide_eq_true_eq, decide_eq_false_iff_not, Classical.not_not] at c_13
        refine z_iload_n X dX4_nextCable_16 rfl ?_
        refine z_ldc X qX4_76 dX4_nextCable_17 ?_
        rw [zkB]
        refine z_icmp_ge (tgt := 79) X dX4_nextCable_19 (by decide) (fun c_19 => ?_) (fun c_19 => ?_)
        · skip
          try simp (disch := omega) only [zk0, nI_leI, nI_ltI, nI_eq, zbk_notn, zbk_not, zbk_n0, zbk_0, zb_0, zb_n0, zb_not, zb_notn, Bool.not_eq_false, Bool.not_eq_true, Bool.not_eq_true', Bool.not_eq_false', decide_eq_true_eq, decide_eq_false_iff_not, Classical.not_not] at c_19
          refine z_iconst (v := -1) X (by decide) dX4_nextCable_79 ?_
          refine z_iret X (by decide) (by decide) rfl dX4_nextCable_80 ?_
          first
            | exact ⟨_, rfl, rfl, rfl, Or.inl ⟨c9, by omega, rfl, by omega, ⟨by assumption, by assumption, by assumption⟩, hj (by omega)⟩⟩
            | (refine ⟨_, rfl, rfl, rfl, Or.inl ⟨c9, ?_, rfl, ?_, ⟨c_39, c_48, c_68⟩, ?_⟩⟩; omega; omega; exact hj (by omega))
            | exact ⟨_, rfl, rfl, rfl, Or.inr ⟨rfl, fun hlt j hj9 => hj hlt j (by omega)⟩⟩
            | exact ⟨_, rfl, rfl, rfl, Or.inr ⟨rfl, fun hlt => by omega⟩⟩
        · skip
          try simp (disch := omega) only [zk0, nI_leI, nI_ltI, nI_eq, zbk_notn, zbk_not, zbk_n0, zbk_0, zb_0, zb_n0, zb_not, zb_notn, Bool.not_eq_false, Bool.not_eq_true, Bool.not_eq_true', Bool.not_eq_false', decide_eq_true_eq, decide_eq_false_iff_not, Classical.not_not] at c_19
          refine z_aload_n X dX4_nextCable_22 rfl ?_
          refine z_iload_n X dX4_nextCable_23 rfl ?_
          refine z_runV X kX4_48 (tX4_cableAt c9 hS hK hnc (by omega)) (zso_13 hS) rfl rfl (Nat.le_of_ble_eq_true rfl) ⟨by decide, by decide⟩ ⟨by decide, by decide⟩ dX4_nextCable_24 ?_
          rintro _ g1 s1 ⟨rfl, h8, h9⟩
          replace h8 := h8.symm
          subst h8
          replace h9 := h9.symm
          subst h9
          have hF := hK.2.1 c9 (by omega)
          obtain ⟨b1, b2, b3, b4, b5, b6, b7, b8, b9, b10, b11, b12⟩ := hcb c9 (by omega)
          have ho8 : zoe ad ot c9 a < 8 := by unfold zoe; split <;> omega
          have hdo := hd _ ho8
          refine z_astore X dX4_nextCable_27 (by decide) ?_
          refine z_aload X dX4_nextCable_29 rfl ?_
          refine z_ifnull X dX4_nextCable_31 ?_
          refine z_aload X dX4_nextCable_34 rfl ?_
          refine z_geti X fX4_52 (hF.1) rfl dX4_nextCable_36 ?_
          try simp (disch := omega) only [z_up_app, z_put_app, reduceIte, Nat.reduceEqDiff, b12]
          refine z_if_ne (tgt := 73) X dX4_nextCable_39 (by decide) (fun c_39 => ?_) (fun c_39 => ?_)
          · skip
            try simp (disch := omega) only [zk0, nI_leI, nI_ltI, nI_eq, zbk_notn, zbk_not, zbk_n0, zbk_0, zb_0, zb_n0, zb_not, zb_notn, Bool.not_eq_false, Bool.not_eq_true, Bool.not_eq_true', Bool.not_eq_false', decide_eq_true_eq, decide_eq_false_iff_not, Classical.not_not] at c_39
            refine z_inc1 X dX4_nextCable_73 rfl (by decide) ?_
            refine z_goto (tgt := 8) X dX4_nextCable_76 (by decide) ?_
            refine ih_8 (c9 + 1) _ (by omega) (fun hlt j hj9 => ?_) (by omega)
            by_cases e : j = c9
            · subst e
              rintro ⟨z1, z2, z3⟩
              first
                | (rw [c_39] at z1; exact absurd z1 (by decide))
                | exact c_68 z3
                | exact c_48 z2
                | (have z4 : ¬ (nI a = nI (ad j) ∨ nI a = nI (ot j)) := c_48
                   exact z4 (z2.imp (fun q => by rw [q]) (fun q => by rw [q])))
            · exact hj hlt j (by omega)
          · skip
            try simp (disch := omega) only [zk0, nI_leI, nI_ltI, nI_eq, zbk_notn, zbk_not, zbk_n0, zbk_0, zb_0, zb_n0, zb_not, zb_notn, Bool.not_eq_false, Bool.not_eq_true, Bool.not_eq_true', Bool.not_eq_false', decide_eq_true_eq, decide_eq_false_iff_not, Classical.not_not] at c_39
            refine z_aload X dX4_nextCable_42 rfl ?_
            refine z_iload_n X dX4_nextCable_44 rfl ?_
            refine z_runV X kX4_104 (tX1_touches (nI a) hF.1) (hF.1) rfl rfl (Nat.le_of_ble_eq_true rfl) ⟨by decide, by decide⟩ ⟨by decide, by decide⟩ dX4_nextCable_45 ?_
            rintro _ g1 s1 ⟨rfl, h8, h9⟩
            replace h8 := h8.symm
            subst h8
            replace h9 := h9.symm
            subst h9
            rw [b1, b3]
            refine z_if_eq (tgt := 73) X dX4_nextCable_48 (by decide) (fun c_48 => ?_) (fun c_48 => ?_)
            · skip
              try simp (disch := omega) only [zk0, nI_leI, nI_ltI, nI_eq, zbk_notn, zbk_not, zbk_n0, zbk_0, zb_0, zb_n0, zb_not, zb_notn, Bool.not_eq_false, Bool.not_eq_true, Bool.not_eq_true', Bool.not_eq_false', decide_eq_true_eq, decide_eq_false_iff_not, Classical.not_not] at c_48
              refine z_inc1 X dX4_nextCable_73 rfl (by decide) ?_
              refine z_goto (tgt := 8) X dX4_nextCable_76 (by decide) ?_
              refine ih_8 (c9 + 1) _ (by omega) (fun hlt j hj9 => ?_) (by omega)
              by_cases e : j = c9
              · subst e
                rintro ⟨z1, z2, z3⟩
                first
                  | (rw [c_39] at z1; exact absurd z1 (by decide))
                  | exact c_68 z3
                  | exact c_48 z2
                  | (have z4 : ¬ (nI a = nI (ad j) ∨ nI a = nI (ot j)) := c_48
                     exact z4 (z2.imp (fun q => by rw [q]) (fun q => by rw [q])))
              · exact hj hlt j (by omega)
            · skip
              try simp (disch := omega) only [zk0, nI_leI, nI_ltI, nI_eq, zbk_notn, zbk_not, zbk_n0, zbk_0, zb_0, zb_n0, zb_not, zb_notn, Bool.not_eq_false, Bool.not_eq_true, Bool.not_eq_true', Bool.not_eq_false', decide_eq_true_eq, decide_eq_false_iff_not, Classical.not_not] at c_48
              refine z_aload_n X dX4_nextCable_51 rfl ?_
              refine z_aload X dX4_nextCable_52 rfl ?_
              refine z_iload_n X dX4_nextCable_54 rfl ?_
              refine z_runV X kX4_70 (tX1_otherEnd (nI a) hF.1) (hF.1) rfl rfl (Nat.le_of_ble_eq_true rfl) ⟨by decide, by decide⟩ ⟨by decide, by decide⟩ dX4_nextCable_55 ?_
              rintro _ g1 s1 ⟨rfl, h8, h9⟩
              replace h8 := h8.symm
              subst h8
              replace h9 := h9.symm
              subst h9
              rw [zoe_i (by omega) (by omega) b1 b3]
              refine z_runV X kX4_97 (tX4_costFrom (zoe ad ot c9 a) hS ho8) (zso_13 hS) rfl rfl (Nat.le_of_ble_eq_true rfl) ⟨by decide, by decide⟩ ⟨by decide, by decide⟩ dX4_nextCable_58 ?_
              rintro _ g1 s1 ⟨rfl, h8, h9⟩
              replace h8 := h8.symm
              subst h8
              replace h9 := h9.symm
              subst h9
              rw [hdo.1]
              refine z_aload X dX4_nextCable_61 rfl ?_
              refine z_runS X kX4_100 (tX4_costOf hF.1 b6) rfl rfl (Nat.le_of_ble_eq_true rfl) ⟨by decide, by decide⟩ ⟨by decide, by decide⟩ dX4_nextCable_63 ?_
              rintro _ g1 s1 ⟨rfl, h8, h9⟩
              replace h8 := h8.symm
              subst h8
              replace h9 := h9.symm
              subst h9
              refine z_iaddN X dX4_nextCable_66 ?_
              refine z_iload_n X dX4_nextCable_67 rfl ?_
              refine z_icmp_ne (tgt := 73) X dX4_nextCable_68 (by decide) (fun c_68 => ?_) (fun c_68 => ?_)
              · skip
                try simp (disch := omega) only [zk0, nI_leI, nI_ltI, nI_eq, zbk_notn, zbk_not, zbk_n0, zbk_0, zb_0, zb_n0, zb_not, zb_notn, Bool.not_eq_false, Bool.not_eq_true, Bool.not_eq_true', Bool.not_eq_false', decide_eq_true_eq, decide_eq_false_iff_not, Classical.not_not] at c_68
                refine z_inc1 X dX4_nextCable_73 rfl (by decide) ?_
                refine z_goto (tgt := 8) X dX4_nextCable_76 (by decide) ?_
                refine ih_8 (c9 + 1) _ (by omega) (fun hlt j hj9 => ?_) (by omega)
                by_cases e : j = c9
                · subst e
                  rintro ⟨z1, z2, z3⟩
                  first
                    | (rw [c_39] at z1; exact absurd z1 (by decide))
                    | exact c_68 z3
                    | exact c_48 z2
                    | (have z4 : ¬ (nI a = nI (ad j) ∨ nI a = nI (ot j)) := c_48
                       exact z4 (z2.imp (fun q => by rw [q]) (fun q => by rw [q])))
                · exact hj hlt j (by omega)
              · skip
                try simp (disch := omega) only [zk0, nI_leI, nI_ltI, nI_eq, zbk_notn, zbk_not, zbk_n0, zbk_0, zb_0, zb_n0, zb_not, zb_notn, Bool.not_eq_false, Bool.not_eq_true, Bool.not_eq_true', Bool.not_eq_false', decide_eq_true_eq, decide_eq_false_iff_not, Classical.not_not] at c_68
                refine z_iload_n X dX4_nextCable_71 rfl ?_
                refine z_iret X (by decide) (by decide) rfl dX4_nextCable_72 ?_
                first
                  | exact ⟨_, rfl, rfl, rfl, Or.inl ⟨c9, by omega, rfl, by omega, ⟨by assumption, by assumption, by assumption⟩, hj (by omega)⟩⟩
                  | (refine ⟨_, rfl, rfl, rfl, Or.inl ⟨c9, ?_, rfl, ?_, ⟨c_39, c_48, c_68⟩, ?_⟩⟩; omega; omega; exact hj (by omega))
                  | exact ⟨_, rfl, rfl, rfl, Or.inr ⟨rfl, fun hlt j hj9 => hj hlt j (by omega)⟩⟩
                  | exact ⟨_, rfl, rfl, rfl, Or.inr ⟨rfl, fun hlt => by omega⟩⟩
  refine z_aload_n X dX4_nextCable_0 rfl ?_
  refine z_iload_n X dX4_nextCable_1 rfl ?_
  refine z_runV X kX4_97 (tX4_costFrom a hS (by omega)) (zso_13 hS) rfl rfl (Nat.le_of_ble_eq_true rfl) ⟨by decide, by decide⟩ ⟨by decide, by decide⟩ dX4_nextCable_2 ?_
  rintro _ g1 s1 ⟨rfl, h8, h9⟩
  replace h8 := h8.symm
  subst h8
  replace h9 := h9.symm
  subst h9
  rw [hda.1]
  refine z_istore_n X dX4_nextCable_5 (by decide) ?_
  refine z_iconst (v := nI 0) X (by decide) dX4_nextCable_6 ?_
  refine z_istore_n X dX4_nextCable_7 (by decide) ?_
  exact loop_8 (nc - 0 + 1) 0 _ (by omega) (fun _ j h => absurd h (Nat.not_lt_zero _)) (by omega)

/-- the cables of a way from office a to the last one -/
def zpath (cn : Nat → Nat → Prop) (oe : Nat → Nat → Nat) (nc to : Nat) : Nat → List Nat → Prop
  | a, [] => a = to
  | a, c :: l => a ≠ to ∧ c < nc ∧ cn a c ∧ (∀ j, j < c → ¬ cn a j) ∧ zpath cn oe nc to (oe c a) l
theorem zpath_one {cn : Nat → Nat → Prop} {oe : Nat → Nat → Nat} {nc to : Nat} : ∀ {a : Nat} {l l' : List Nat}, zpath cn oe nc to a l → zpath cn oe nc to a l' → l = l'
  | a, [], [], _, _ => rfl
  | a, [], c :: l', h1, h2 => absurd h1 h2.1
  | a, c :: l, [], h1, h2 => absurd h2 h1.1
  | a, c :: l, c' :: l', h1, h2 => by
    obtain ⟨_, _, p3, p4, p5⟩ := h1
    obtain ⟨_, _, q3, q4, q5⟩ := h2
    have e : c = c' := by
      rcases Nat.lt_trichotomy c c' with q | q | q
      · exact absurd p3 (q4 c q)
      · exact q
      · exact absurd q3 (p4 c' q)
    subst e
    rw [zpath_one p5 q5]
set_option maxHeartbeats 4000000 in
set_option maxRecDepth 100000 in
theorem tX4_findRoute {l : Launch} {D : va_G} {cy : Nat → ClassId} {z0 : zRg} {g : zSh} {σ : zIn} {nc no : Nat} {ad ot rt sp : Nat → Nat} {br : Nat → Bool} (fm to : Nat) (hS : zS g) (hK : zC g nc) (hnc : σ 13 5 = nI nc) (hO : zO g no) (hno : σ 13 4 = nI no) (hcb : zCb σ nc no ad ot rt sp br) (hno8 : no ≤ 8) (hfm : fm < no) (hto : to < no) : z_Ct l D cy z0 MX4_findRoute [.ref (g.2.1 13), .int (nI fm), .int (nI to)] g σ (fun v g' σ' => ∃ (b : Bool) (d : Nat → Nat), d = zrs ad ot rt br nc (zd0 1000000000 to) (no - 1) ∧ v = some (.int (zb b)) ∧ g' = g ∧ (∀ i, i ≠ 13 → i ≠ 16 → i ≠ 17 → σ' i = σ i) ∧ (∀ k, k ≠ 6 → σ' 13 k = σ 13 k) ∧ (b = true → ∃ l, zpath (fun a c => d a < 1000000000 ∧ zcn ad ot rt br d a c) (zoe ad ot) nc to fm l ∧ l.length ≤ 8 ∧ σ' 13 6 = nI l.length ∧ ∀ i, i < l.length → σ' 17 i = nI (l.getD i 0)) ∧ (b = false → ∀ l, zpath (fun a c => d a < 1000000000 ∧ zcn ad ot rt br d a c) (zoe ad ot) nc to fm l → 8 < l.length)) := by
  refine z_ofM (by decide) (z_cr (z_ci (z_ci z_c0))) (Nat.le_of_ble_eq_true rfl) ?_
  intro p e s m args below meth c X
  refine z_aload_n X dX4_findRoute_0 rfl ?_
  refine z_iload_n X dX4_findRoute_1 rfl ?_
  refine z_runV X kX4_62 (tX4_findCosts (ad := ad) (ot := ot) (rt := rt) (sp := sp) (br := br) to hS hK hnc hO hno hcb hno8 hto) (zso_13 hS) rfl rfl (Nat.le_of_ble_eq_true rfl) ⟨by decide, by decide⟩ ⟨by decide, by decide⟩ dX4_findRoute_2 ?_
  rintro _ g1 s1 ⟨rfl, h8, p1, p2⟩
  obtain rfl := h8.symm
  obtain ⟨d, hde⟩ : ∃ d, zrs ad ot rt br nc (zd0 1000000000 to) (no - 1) = d := ⟨_, rfl⟩
  rw [hde] at p2
  have loop_12 : ∀ (n : Nat) (a : Nat) (pre : List Nat) (w1 w2 : Option Value) (τ : zIn) (ha : a < no) (hpl : pre.length ≤ 8) (hf : ∀ i, i ≠ 13 → i ≠ 16 → i ≠ 17 → τ i = σ i) (hf3 : ∀ k, k ≠ 6 → τ 13 k = σ 13 k) (hd : zco τ d) (hl : τ 13 6 = nI pre.length) (hr : ∀ i, i < pre.length → τ 17 i = nI (pre.getD i 0)) (hp1 : ∀ l, zpath (fun a c => d a < 1000000000 ∧ zcn ad ot rt br d a c) (zoe ad ot) nc to a l → zpath (fun a c => d a < 1000000000 ∧ zcn ad ot rt br d a c) (zoe ad ot) nc to fm (pre ++ l)) (hp2 : ∀ l, zpath (fun a c => d a < 1000000000 ∧ zcn ad ot rt br d a c) (zoe ad ot) nc to fm l → ∃ l', l = pre ++ l' ∧ zpath (fun a c => d a < 1000000000 ∧ zcn ad ot rt br d a c) (zoe ad ot) nc to a l') (hn : 8 - pre.length < n), z_V p l e (zRm MX4_findRoute) s m args below meth c 6 D cy z0 0 0 (zQm MX4_findRoute below D cy z0 (fun v g' σ' => ∃ (b : Bool) (d : Nat → Nat), d = zrs ad ot rt br nc (zd0 1000000000 to) (no - 1) ∧ v = some (.int (zb b)) ∧ g' = g ∧ (∀ i, i ≠ 13 → i ≠ 16 → i ≠ 17 → σ' i = σ i) ∧ (∀ k, k ≠ 6 → σ' 13 k = σ 13 k) ∧ (b = true → ∃ l, zpath (fun a c => d a < 1000000000 ∧ zcn ad ot rt br d a c) (zoe ad ot) nc to fm l ∧ l.length ≤ 8 ∧ σ' 13 6 = nI l.length ∧ ∀ i, i < l.length → σ' 17 i = nI (l.getD i 0)) ∧ (b = false → ∀ l, zpath (fun a c => d a < 1000000000 ∧ zcn ad ot rt br d a c) (zoe ad ot) nc to fm l → 8 < l.length)) args s) 12 [some (.ref (g.2.1 13)), some (.int (nI fm)), some (.int (nI to)), some (.int (nI a)), w1, w2] [] g τ := by
    intro n
    induction n with
    | zero => intro a pre w1 w2 τ ha hpl hf hf3 hd hl hr hp1 hp2 hn; exact absurd hn (Nat.not_lt_zero _)
    | succ n ih_12 =>
      intro a pre w1 w2 τ ha hpl hf hf3 hd hl hr hp1 hp2 hn
      have eC : τ 13 5 = nI nc := by rw [hf3 5 (by decide)]; exact hnc
      have eO : τ 13 4 = nI no := by rw [hf3 4 (by decide)]; exact hno
      have eB := zCb_eq (σ' := τ) hcb (fun c hc k hk => by rw [hf (120 + c) (by omega) (by omega) (by omega)])
      have hk12 := hK.1
      refine z_iload_n X dX4_findRoute_12 rfl ?_
      refine z_iload_n X dX4_findRoute_13 rfl ?_
      refine z_icmp_eq (tgt := 82) X dX4_findRoute_14 (by decide) (fun c_14 => ?_) (fun c_14 => ?_)
      · skip
        try simp (disch := omega) only [zk0, nI_leI, nI_ltI, nI_eq, zbk_notn, zbk_not, zbk_n0, zbk_0, zb_0, zb_n0, zb_not, zb_notn, Bool.not_eq_false, Bool.not_eq_true, Bool.not_eq_true', Bool.not_eq_false', decide_eq_true_eq, decide_eq_false_iff_not, Classical.not_not] at c_14
        refine z_iload_n X dX4_findRoute_82 rfl ?_
        refine z_iload_n X dX4_findRoute_83 rfl ?_
        refine z_icmp_ne (tgt := 91) X dX4_findRoute_84 (by decide) (fun c_84 => ?_) (fun c_84 => ?_)
        · skip
          try simp (disch := omega) only [zk0, nI_leI, nI_ltI, nI_eq, zbk_notn, zbk_not, zbk_n0, zbk_0, zb_0, zb_n0, zb_not, zb_notn, Bool.not_eq_false, Bool.not_eq_true, Bool.not_eq_true', Bool.not_eq_false', decide_eq_true_eq, decide_eq_false_iff_not, Classical.not_not] at c_84
          refine z_iconst (v := nI 0) X (by decide) dX4_findRoute_91 ?_
          refine z_zret X (by decide) (by decide) rfl (by first | exact Or.inl rfl | exact Or.inr rfl | exact zb_01 _ | assumption) dX4_findRoute_92 ?_
          first
            | (subst c_14
               have hz := hp1 [] rfl
               rw [List.append_nil] at hz
               exact ⟨true, d, hde.symm, rfl, rfl, hf, hf3, fun _ => ⟨pre, hz, hpl, hl, hr⟩, fun h => by cases h⟩)
            | exact ⟨true, d, hde.symm, rfl, rfl, hf, hf3, fun _ => ⟨pre, (by have hz := hp1 [] (by first | exact c_84 | exact c_14); rw [List.append_nil] at hz; exact hz), hpl, hl, hr⟩, fun h => by cases h⟩
            | (refine ⟨false, d, hde.symm, rfl, rfl, hf, hf3, fun h => (by cases h), fun _ l h => ?_⟩
               obtain ⟨l', e1, e2⟩ := hp2 l h
               cases l' with
               | nil => first | exact absurd e2 c_14 | exact absurd e2 c_84
               | cons c' l2 =>
                 obtain ⟨q1, q2, q3, q4, q5⟩ := e2
                 first
                   | exact absurd q3.2 (hnn q3.1 c' q2)
                   | (rw [e1]; simp; omega))
            | exact absurd (by assumption) (by assumption)
        · skip
          try simp (disch := omega) only [zk0, nI_leI, nI_ltI, nI_eq, zbk_notn, zbk_not, zbk_n0, zbk_0, zb_0, zb_n0, zb_not, zb_notn, Bool.not_eq_false, Bool.not_eq_true, Bool.not_eq_true', Bool.not_eq_false', decide_eq_true_eq, decide_eq_false_iff_not, Classical.not_not] at c_84
          refine z_iconst (v := nI 1) X (by decide) dX4_findRoute_87 ?_
          refine z_goto (tgt := 92) X dX4_findRoute_88 (by decide) ?_
          refine z_zret X (by decide) (by decide) rfl (by first | exact Or.inl rfl | exact Or.inr rfl | exact zb_01 _ | assumption) dX4_findRoute_92 ?_
          first
            | (subst c_14
               have hz := hp1 [] rfl
               rw [List.append_nil] at hz
               exact ⟨true, d, hde.symm, rfl, rfl, hf, hf3, fun _ => ⟨pre, hz, hpl, hl, hr⟩, fun h => by cases h⟩)
            | exact ⟨true, d, hde.symm, rfl, rfl, hf, hf3, fun _ => ⟨pre, (by have hz := hp1 [] (by first | exact c_84 | exact c_14); rw [List.append_nil] at hz; exact hz), hpl, hl, hr⟩, fun h => by cases h⟩
            | (refine ⟨false, d, hde.symm, rfl, rfl, hf, hf3, fun h => (by cases h), fun _ l h => ?_⟩
               obtain ⟨l', e1, e2⟩ := hp2 l h
               cases l' with
               | nil => first | exact absurd e2 c_14 | exact absurd e2 c_84
               | cons c' l2 =>
                 obtain ⟨q1, q2, q3, q4, q5⟩ := e2
                 first
                   | exact absurd q3.2 (hnn q3.1 c' q2)
                   | (rw [e1]; simp; omega))
            | exact absurd (by assumption) (by assumption)
      · skip
        try simp (disch := omega) only [zk0, nI_leI, nI_ltI, nI_eq, zbk_notn, zbk_not, zbk_n0, zbk_0, zb_0, zb_n0, zb_not, zb_notn, Bool.not_eq_false, Bool.not_eq_true, Bool.not_eq_true', Bool.not_eq_false', decide_eq_true_eq, decide_eq_false_iff_not, Classical.not_not] at c_14
        refine z_aload_n X dX4_findRoute_17 rfl ?_
        refine z_geti X fX4_37 (zso_13 hS) rfl dX4_findRoute_18 ?_
        try simp (disch := omega) only [z_up_app, z_put_app, reduceIte, Nat.reduceEqDiff, hl]
        refine z_aload_n X dX4_findRoute_21 rfl ?_
        refine z_getr2 X fX4_27 (zso_13 hS) (zsr_13_3 hS) rfl dX4_findRoute_22 ?_
        refine z_alen X (t := 0) (by decide) (zsa_17 hS) dX4_findRoute_25 ?_
        refine z_icmp_ge (tgt := 82) X dX4_findRoute_26 (by decide) (fun c_26 => ?_) (fun c_26 => ?_)
        · skip
          try simp (disch := omega) only [zk0, nI_leI, nI_ltI, nI_eq, zbk_notn, zbk_not, zbk_n0, zbk_0, zb_0, zb_n0, zb_not, zb_notn, Bool.not_eq_false, Bool.not_eq_true, Bool.not_eq_true', Bool.not_eq_false', decide_eq_true_eq, decide_eq_false_iff_not, Classical.not_not] at c_26
          refine z_iload_n X dX4_findRoute_82 rfl ?_
          refine z_iload_n X dX4_findRoute_83 rfl ?_
          refine z_icmp_ne (tgt := 91) X dX4_findRoute_84 (by decide) (fun c_84 => ?_) (fun c_84 => ?_)
          · skip
            try simp (disch := omega) only [zk0, nI_leI, nI_ltI, nI_eq, zbk_notn, zbk_not, zbk_n0, zbk_0, zb_0, zb_n0, zb_not, zb_notn, Bool.not_eq_false, Bool.not_eq_true, Bool.not_eq_true', Bool.not_eq_false', decide_eq_true_eq, decide_eq_false_iff_not, Classical.not_not] at c_84
            refine z_iconst (v := nI 0) X (by decide) dX4_findRoute_91 ?_
            refine z_zret X (by decide) (by decide) rfl (by first | exact Or.inl rfl | exact Or.inr rfl | exact zb_01 _ | assumption) dX4_findRoute_92 ?_
            first
              | (subst c_14
                 have hz := hp1 [] rfl
                 rw [List.append_nil] at hz
                 exact ⟨true, d, hde.symm, rfl, rfl, hf, hf3, fun _ => ⟨pre, hz, hpl, hl, hr⟩, fun h => by cases h⟩)
              | exact ⟨true, d, hde.symm, rfl, rfl, hf, hf3, fun _ => ⟨pre, (by have hz := hp1 [] (by first | exact c_84 | exact c_14); rw [List.append_nil] at hz; exact hz), hpl, hl, hr⟩, fun h => by cases h⟩
              | (refine ⟨false, d, hde.symm, rfl, rfl, hf, hf3, fun h => (by cases h), fun _ l h => ?_⟩
                 obtain ⟨l', e1, e2⟩ := hp2 l h
                 cases l' with
                 | nil => first | exact absurd e2 c_14 | exact absurd e2 c_84
                 | cons c' l2 =>
                   obtain ⟨q1, q2, q3, q4, q5⟩ := e2
                   first
                     | exact absurd q3.2 (hnn q3.1 c' q2)
                     | (rw [e1]; simp; omega))
              | exact absurd (by assumption) (by assumption)
          · skip
            try simp (disch := omega) only [zk0, nI_leI, nI_ltI, nI_eq, zbk_notn, zbk_not, zbk_n0, zbk_0, zb_0, zb_n0, zb_not, zb_notn, Bool.not_eq_false, Bool.not_eq_true, Bool.not_eq_true', Bool.not_eq_false', decide_eq_true_eq, decide_eq_false_iff_not, Classical.not_not] at c_84
            refine z_iconst (v := nI 1) X (by decide) dX4_findRoute_87 ?_
            refine z_goto (tgt := 92) X dX4_findRoute_88 (by decide) ?_
            refine z_zret X (by decide) (by decide) rfl (by first | exact Or.inl rfl | exact Or.inr rfl | exact zb_01 _ | assumption) dX4_findRoute_92 ?_
            first
              | (subst c_14
                 have hz := hp1 [] rfl
                 rw [List.append_nil] at hz
                 exact ⟨true, d, hde.symm, rfl, rfl, hf, hf3, fun _ => ⟨pre, hz, hpl, hl, hr⟩, fun h => by cases h⟩)
              | exact ⟨true, d, hde.symm, rfl, rfl, hf, hf3, fun _ => ⟨pre, (by have hz := hp1 [] (by first | exact c_84 | exact c_14); rw [List.append_nil] at hz; exact hz), hpl, hl, hr⟩, fun h => by cases h⟩
              | (refine ⟨false, d, hde.symm, rfl, rfl, hf, hf3, fun h => (by cases h), fun _ l h => ?_⟩
                 obtain ⟨l', e1, e2⟩ := hp2 l h
                 cases l' with
                 | nil => first | exact absurd e2 c_14 | exact absurd e2 c_84
                 | cons c' l2 =>
                   obtain ⟨q1, q2, q3, q4, q5⟩ := e2
                   first
                     | exact absurd q3.2 (hnn q3.1 c' q2)
                     | (rw [e1]; simp; omega))
              | exact absurd (by assumption) (by assumption)
        · skip
          try simp (disch := omega) only [zk0, nI_leI, nI_ltI, nI_eq, zbk_notn, zbk_not, zbk_n0, zbk_0, zb_0, zb_n0, zb_not, zb_notn, Bool.not_eq_false, Bool.not_eq_true, Bool.not_eq_true', Bool.not_eq_false', decide_eq_true_eq, decide_eq_false_iff_not, Classical.not_not] at c_26
          refine z_aload_n X dX4_findRoute_29 rfl ?_
          refine z_iload_n X dX4_findRoute_30 rfl ?_
          refine z_runV X kX4_66 (tX4_nextCable (ad := ad) (ot := ot) (rt := rt) (sp := sp) (br := br) (d := d) a hS hK eC eB hno8 hd ha) (zso_13 hS) rfl rfl (Nat.le_of_ble_eq_true rfl) ⟨by decide, by decide⟩ ⟨by decide, by decide⟩ dX4_findRoute_31 ?_
          rintro _ g1 s2 ⟨r, rfl, h8, h9, hnx⟩
          obtain rfl := h8.symm
          obtain rfl := h9.symm
          rcases hnx with ⟨c9, hc1, rfl, hc2, hc3, hc4⟩ | ⟨rfl, hnn⟩
          · skip
            have hF := hK.2.1 c9 hc1
            obtain ⟨b1, b2, b3, b4, b5, b6, b7, b8, b9, b10, b11, b12⟩ := eB c9 hc1
            refine z_istore X dX4_findRoute_34 (by decide) ?_
            refine z_aload_n X dX4_findRoute_36 rfl ?_
            refine z_iload X dX4_findRoute_37 rfl ?_
            refine z_runV X kX4_48 (tX4_cableAt c9 hS hK eC hc1) (zso_13 hS) rfl rfl (Nat.le_of_ble_eq_true rfl) ⟨by decide, by decide⟩ ⟨by decide, by decide⟩ dX4_findRoute_39 ?_
            rintro _ g1 s1 ⟨rfl, h8, h9⟩
            replace h8 := h8.symm
            subst h8
            replace h9 := h9.symm
            subst h9
            refine z_astore X dX4_findRoute_42 (by decide) ?_
            refine z_aload X dX4_findRoute_44 rfl ?_
            refine z_ifnonnull (tgt := 51) X dX4_findRoute_46 (by decide) ?_
            refine z_aload_n X dX4_findRoute_51 rfl ?_
            refine z_getr2 X fX4_27 (zso_13 hS) (zsr_13_3 hS) rfl dX4_findRoute_52 ?_
            refine z_aload_n X dX4_findRoute_55 rfl ?_
            refine z_geti X fX4_37 (zso_13 hS) rfl dX4_findRoute_56 ?_
            try simp (disch := omega) only [z_up_app, z_put_app, reduceIte, Nat.reduceEqDiff, hl]
            refine z_iload X dX4_findRoute_59 rfl ?_
            refine z_iastN X (zsa_17 hS) (by omega) (by omega) dX4_findRoute_61 ?_
            refine z_aload_n X dX4_findRoute_62 rfl ?_
            refine z_dup X rfl dX4_findRoute_63 ?_
            refine z_geti X fX4_37 (zso_13 hS) rfl dX4_findRoute_64 ?_
            try simp (disch := omega) only [z_up_app, z_put_app, reduceIte, Nat.reduceEqDiff, hl]
            refine z_iconst (v := nI 1) X (by decide) dX4_findRoute_67 ?_
            refine z_iaddN X dX4_findRoute_68 ?_
            refine z_puti X fX4_37 (zso_13 hS) rfl dX4_findRoute_69 ?_
            refine z_aload X dX4_findRoute_72 rfl ?_
            refine z_iload_n X dX4_findRoute_74 rfl ?_
            refine z_runV X kX4_70 (tX1_otherEnd (nI a) hF.1) (hF.1) rfl rfl (Nat.le_of_ble_eq_true rfl) ⟨by decide, by decide⟩ ⟨by decide, by decide⟩ dX4_findRoute_75 ?_
            rintro _ g1 s1 ⟨rfl, h8, h9⟩
            replace h8 := h8.symm
            subst h8
            replace h9 := h9.symm
            subst h9
            rw [show z_up (z_up τ 17 pre.length (nI c9)) 13 6 (nI (pre.length + 1)) (120 + c9) = τ (120 + c9) from by rw [z_up_ne (by omega), z_up_ne (by omega)], zoe_i (by omega) (by omega) b1 b3]
            refine z_istore_n X dX4_findRoute_78 (by decide) ?_
            refine z_goto (tgt := 12) X dX4_findRoute_79 (by decide) ?_
            have ho9 : zoe ad ot c9 a < no := by unfold zoe; split <;> omega
            exact ih_12 (zoe ad ot c9 a) (pre ++ [c9]) _ _ (z_up (z_up τ 17 pre.length (nI c9)) 13 6 (nI (pre.length + 1))) ho9 (by simp; omega) (fun i h1 h2 h3 => by rw [z_up_ne h1, z_up_ne h3]; exact hf i h1 h2 h3) (fun k hk => by simp only [z_up_app, reduceIte, Nat.reduceEqDiff, if_neg hk]; exact hf3 k hk) (fun v hv => by rw [z_up_ne (by decide), z_up_ne (by decide)]; exact hd v hv) (by simp only [z_up_app, reduceIte, List.length_append, List.length_cons, List.length_nil, Nat.zero_add]) (fun i hi => by
                rw [List.length_append] at hi
                by_cases e : i = pre.length
                · subst e; simp only [z_up_app, reduceIte, Nat.reduceEqDiff]; rw [List.getD, List.getElem?_append_right (Nat.le_refl _), Nat.sub_self]; rfl
                · have hlt : i < pre.length := by simp at hi; omega
                  simp only [z_up_app, reduceIte, Nat.reduceEqDiff, if_neg e]
                  rw [List.getD, List.getElem?_append_left hlt]; exact hr i hlt)
              (fun l h => by rw [List.append_assoc]; exact hp1 (c9 :: l) ⟨c_14, hc1, ⟨hc2, hc3⟩, fun j hj q => hc4 j hj q.2, h⟩)
              (fun l h => by
                obtain ⟨l', e1, e2⟩ := hp2 l h
                cases l' with
                | nil => exact absurd e2 c_14
                | cons c' l2 =>
                  obtain ⟨q1, q2, q3, q4, q5⟩ := e2
                  have ec : c' = c9 := by
                    rcases Nat.lt_trichotomy c' c9 with q | q | q
                    · exact absurd q3.2 (hc4 c' q)
                    · exact q
                    · exact absurd ⟨hc2, hc3⟩ (q4 c9 q)
                  subst ec
                  exact ⟨l2, by rw [e1, List.append_assoc]; rfl, q5⟩) (by simp; omega)
          · skip
            refine z_istore X dX4_findRoute_34 (by decide) ?_
            refine z_aload_n X dX4_findRoute_36 rfl ?_
            refine z_iload X dX4_findRoute_37 rfl ?_
            refine z_runV X kX4_48 (tX4_cableAtN (-1) hS hK eC zin_m1) (zso_13 hS) rfl rfl (Nat.le_of_ble_eq_true rfl) ⟨by decide, by decide⟩ ⟨by decide, by decide⟩ dX4_findRoute_39 ?_
            rintro _ g1 s1 ⟨rfl, h8, h9⟩
            replace h8 := h8.symm
            subst h8
            replace h9 := h9.symm
            subst h9
            refine z_astoreN X dX4_findRoute_42 (by decide) ?_
            refine z_aloadN X dX4_findRoute_44 rfl ?_
            refine z_ifnonnullN X dX4_findRoute_46 ?_
            refine z_iconst (v := nI 0) X (by decide) dX4_findRoute_49 ?_
            refine z_zret X (by decide) (by decide) rfl (by first | exact Or.inl rfl | exact Or.inr rfl | exact zb_01 _ | assumption) dX4_findRoute_50 ?_
            first
              | (subst c_14
                 have hz := hp1 [] rfl
                 rw [List.append_nil] at hz
                 exact ⟨true, d, hde.symm, rfl, rfl, hf, hf3, fun _ => ⟨pre, hz, hpl, hl, hr⟩, fun h => by cases h⟩)
              | exact ⟨true, d, hde.symm, rfl, rfl, hf, hf3, fun _ => ⟨pre, (by have hz := hp1 [] (by first | exact c_84 | exact c_14); rw [List.append_nil] at hz; exact hz), hpl, hl, hr⟩, fun h => by cases h⟩
              | (refine ⟨false, d, hde.symm, rfl, rfl, hf, hf3, fun h => (by cases h), fun _ l h => ?_⟩
                 obtain ⟨l', e1, e2⟩ := hp2 l h
                 cases l' with
                 | nil => first | exact absurd e2 c_14 | exact absurd e2 c_84
                 | cons c' l2 =>
                   obtain ⟨q1, q2, q3, q4, q5⟩ := e2
                   first
                     | exact absurd q3.2 (hnn q3.1 c' q2)
                     | (rw [e1]; simp; omega))
              | exact absurd (by assumption) (by assumption)
  refine z_aload_n X dX4_findRoute_5 rfl ?_
  refine z_iconst (v := nI 0) X (by decide) dX4_findRoute_6 ?_
  refine z_puti X fX4_37 (zso_13 hS) rfl dX4_findRoute_7 ?_
  refine z_iload_n X dX4_findRoute_10 rfl ?_
  refine z_istore_n X dX4_findRoute_11 (by decide) ?_
  exact loop_12 (8 - 0 + 1) fm [] _ _ (z_up s1 13 6 (nI 0)) hfm (by simp) (fun i h1 h2 h3 => by rw [z_up_ne h1, p1 i h2]) (fun k hk => by simp only [z_up_app, reduceIte, if_neg hk]; rw [p1 13 (by decide)]) (fun v hv => by rw [z_up_ne (by decide)]; exact p2 v hv) (by simp only [z_up_app, reduceIte]; rfl) (fun i h => absurd h (by simp)) (fun l h => h) (fun l h => ⟨l, rfl, h⟩) (by simp)
