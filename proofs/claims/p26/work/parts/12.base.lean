/-! words of the contracts -/
def zb (b : Bool) : Int32 := if b then 1 else 0
theorem zb_t {b : Bool} (h : b = true) : zb b = 1 := by subst h; rfl
theorem zb_f {b : Bool} (h : b = false) : zb b = 0 := by subst h; rfl
theorem zb_01 (b : Bool) : zb b = 0 ∨ zb b = 1 := by cases b; exact Or.inl rfl; exact Or.inr rfl
theorem zb_0 {b : Bool} : zb b = 0 ↔ b = false := by cases b <;> decide
theorem zb_n0 {b : Bool} : ¬ zb b = 0 ↔ b = true := by cases b <;> decide
theorem zb_1 {b : Bool} : zb b = 1 ↔ b = true := by cases b <;> decide
/-- a method that answers r and leaves g', σ' -/
def zI (r : Int32) (g' : zSh) (σ' : zIn) : Option Value → zSh → zIn → Prop := fun v g σ => v = some (.int r) ∧ g = g' ∧ σ = σ'
def zN (g' : zSh) (σ' : zIn) : Option Value → zSh → zIn → Prop := fun v g σ => v = none ∧ g = g' ∧ σ = σ'
/-- .. a reference, by its id; 0: null -/
def zR (j : Nat) (g' : zSh) (σ' : zIn) : Option Value → zSh → zIn → Prop := fun v g σ => v = some (z_rv g' j) ∧ g = g' ∧ σ = σ'
theorem zI_e {r : Int32} {g g' : zSh} {σ σ' : zIn} {v : Int32} (h1 : v = r) (h2 : g = g') (h3 : σ = σ') : zI r g' σ' (some (.int v)) g σ := ⟨by rw [h1], h2, h3⟩
theorem z_vin {x : Int32} {n : Nat} (h0 : 0 ≤ x.toInt) (h1 : x.toInt < n) : vp_in x n := vp_in_iff.mpr ⟨h0, h1⟩
theorem z_cat_i {as : List Int32} : ∀ v ∈ as.map Value.int, v.category = 1 := by
  intro v hv; obtain ⟨x, -, rfl⟩ := List.mem_map.mp hv; rfl
theorem z_c0 : ∀ v ∈ ([] : List Value), v.category = 1 := by intro v h; cases h
theorem z_ci {x : Int32} {as : List Value} (h : ∀ v ∈ as, v.category = 1) : ∀ v ∈ Value.int x :: as, v.category = 1 := by
  intro v hv; rcases List.mem_cons.mp hv with rfl | hv; rfl; exact h v hv
theorem z_cr {x : Nat} {as : List Value} (h : ∀ v ∈ as, v.category = 1) : ∀ v ∈ Value.ref x :: as, v.category = 1 := by
  intro v hv; rcases List.mem_cons.mp hv with rfl | hv; rfl; exact h v hv
theorem z_cn {as : List Value} (h : ∀ v ∈ as, v.category = 1) : ∀ v ∈ Value.null :: as, v.category = 1 := by
  intro v hv; rcases List.mem_cons.mp hv with rfl | hv; rfl; exact h v hv
theorem z_cv {g : zSh} {j : Nat} {as : List Value} (h : ∀ v ∈ as, v.category = 1) : ∀ v ∈ z_rv g j :: as, v.category = 1 := by
  intro v hv; rcases List.mem_cons.mp hv with rfl | hv
  · unfold z_rv z_ro; split <;> rfl
  · exact h v hv
/-- a reference field's id -/
def z_rf (g : zSh) (i k j : Nat) : Prop := g.2.2.2.2 i k = j ∧ j ≠ 0
-- a reference field whose id is known
section ZG
variable {p : Program} {l : Launch} {e : Env} {R : Room} {s : State} {m : MethodId} {args : Array Value} {below : List Frame} {meth : Method} {c : Code} {cells slots : Nat} {Q : State → Prop} {own nm : String} {cc : ByteArray} {nL : Nat} {ret : Option FieldType} {D : va_G} {cy : Nat → ClassId} {z0 : zRg} {pc : Nat} {L : List (Option Value)} {st : List Value} {g : zSh} {σ : zIn}
theorem z_getr2 (X : z_cx p s m args meth c own cc nL ret nm D cy z0) {idx ci k i j : Nat} {ty : FieldType} {fin : Bool} (F : z_fa own idx ci k ty fin) (ho : z_ob g i ci) (hr : z_rf g i k j) (hb : (z_isr ci)[k]? = some true) (d : decode cc pc = .ok (.getfield idx, 3)) (kk : z_V p l e R s m args below meth c nL D cy z0 cells slots Q (pc + 3) L (.ref (g.2.1 j) :: st) g σ) : z_V p l e R s m args below meth c nL D cy z0 cells slots Q pc L (.ref (g.2.1 i) :: st) g σ := z_getr X F ho hr.1 hr.2 hb d kk
end ZG
abbrev zRm (M : zM) : Room := { frames := M.2.2.2.2.1, cells := M.2.2.2.2.2.1, slots := M.2.2.2.2.2.2.1, locals := M.2.2.2.2.2.2.2 }
abbrev zQm (M : zM) (below : List Frame) (D : va_G) (cy : Nat → ClassId) (z0 : zRg) (Post : Option Value → zSh → zIn → Prop) (args : Array Value) (s : State) : State → Prop := MQ below (z_Qc D cy z0 Post) args s M.2.2.2.2.2.1 M.2.2.2.2.2.2.1 (z_A z0)
theorem z_ofM {l : Launch} {D : va_G} {cy : Nat → ClassId} {z0 : zRg} {M : zM} {av : List Value} {g : zSh} {σ : zIn} {Post : Option Value → zSh → zIn → Prop} (hpn : plainName M.1.cls = true) (hav : ∀ v ∈ av, v.category = 1) (hn : av.length ≤ M.2.2.1)
    (h : ∀ (p : Program) (e : Env) (s : State) (m : MethodId) (args : Array Value) (below : List Frame) (meth : Method) (c : Code), z_cx p s m args meth c M.1.cls M.2.1 M.2.2.1 M.2.2.2.1 M.1.name D cy z0 →
      z_V p l e (zRm M) s m args below meth c M.2.2.1 D cy z0 0 0 (zQm M below D cy z0 Post args s) 0 (av.map some ++ List.replicate (M.2.2.1 - av.length) none) [] g σ) : z_Ct l D cy z0 M av g σ Post := z_ofV hpn hav hn h
theorem zk0 : (0 : Int32) = nI 0 := rfl
theorem zk1 : (1 : Int32) = nI 1 := rfl
theorem zk2 : (2 : Int32) = nI 2 := rfl
theorem zk3 : (3 : Int32) = nI 3 := rfl
theorem zk4 : (4 : Int32) = nI 4 := rfl
theorem zk5 : (5 : Int32) = nI 5 := rfl
theorem zk8 : (8 : Int32) = nI 8 := rfl
theorem zk14 : (14 : Int32) = nI 14 := rfl
theorem zk20 : (20 : Int32) = nI 20 := rfl
theorem zk24 : (24 : Int32) = nI 24 := rfl
theorem zk25 : (25 : Int32) = nI 25 := rfl
theorem zk26 : (26 : Int32) = nI 26 := rfl
theorem zk97 : (97 : Int32) = nI 97 := rfl
theorem zk101 : (101 : Int32) = nI 101 := rfl
theorem zk105 : (105 : Int32) = nI 105 := rfl
theorem zk111 : (111 : Int32) = nI 111 := rfl
theorem zk117 : (117 : Int32) = nI 117 := rfl
theorem nI_ne_m1 {k : Nat} (h : k < 2 ^ 31) : ¬ nI k = -1 := by
  intro e
  have h1 := congrArg Int32.toInt e
  rw [nI_toInt h] at h1
  have h2 : (-1 : Int32).toInt = -1 := by decide
  omega
theorem nI_not_neg {k : Nat} (h : k < 2 ^ 31) : ¬ nI k < 0 := nI_pos h
theorem zw_of {w : Int32} (h : 0 ≤ w) : w = nI w.toInt.toNat ∧ w.toInt.toNat < 2 ^ 31 := by
  have h1 : ¬ w < 0 := Int32.not_lt.mpr h
  obtain ⟨j, hj, rfl⟩ := nI_of h1
  have e : (nI j).toInt.toNat = j := by rw [nI_toInt hj]; simp
  rw [e]
  exact ⟨rfl, hj⟩
