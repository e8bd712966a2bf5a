/-! the same for numbers that are known as naturals -/
section ZR
variable {p : Program} {l : Launch} {e : Env} {R : Room} {s : State} {m : MethodId} {args : Array Value} {below : List Frame} {meth : Method} {c : Code} {cells slots : Nat} {Q : State → Prop} {own nm : String} {cc : ByteArray} {nL : Nat} {ret : Option FieldType} {D : va_G} {cy : Nat → ClassId} {z0 : zRg} {pc : Nat} {L : List (Option Value)} {st : List Value} {g : zSh} {σ : zIn}

theorem z_inc1 (X : z_cx p s m args meth c own cc nL ret nm D cy z0) {i : Nat} {x : Nat} (d : decode cc pc = .ok (.iinc i 1, 3)) (h : L[i]? = some (some (.int (nI x)))) (hn : i < nL) (kk : z_V p l e R s m args below meth c nL D cy z0 cells slots Q (pc + 3) (L.set i (some (.int (nI (x + 1))))) (st) g σ) (hs : z_oS L i = true := by rfl) : z_V p l e R s m args below meth c nL D cy z0 cells slots Q (pc) (L) (st) g σ := by
  have h2 := fun hk => z_iinc (v := 1) X d h rfl hn hk hs (Q := Q) (e := e) (l := l) (p := p) (R := R) (below := below) (cells := cells) (slots := slots) (st := st) (g := g) (σ := σ)
  rw [nI_1] at h2
  exact h2 kk
theorem z_iaddN (X : z_cx p s m args meth c own cc nL ret nm D cy z0) {x y : Nat} (d : decode cc pc = .ok (.iadd, 1)) (kk : z_V p l e R s m args below meth c nL D cy z0 cells slots Q (pc + 1) (L) (.int (nI (x + y)) :: st) g σ) : z_V p l e R s m args below meth c nL D cy z0 cells slots Q (pc) (L) (.int (nI y) :: .int (nI x) :: st) g σ := by
  refine z_iadd X d ?_
  rw [nI_add]; exact kk
theorem z_imulN (X : z_cx p s m args meth c own cc nL ret nm D cy z0) {x y : Nat} (d : decode cc pc = .ok (.imul, 1)) (kk : z_V p l e R s m args below meth c nL D cy z0 cells slots Q (pc + 1) (L) (.int (nI (x * y)) :: st) g σ) : z_V p l e R s m args below meth c nL D cy z0 cells slots Q (pc) (L) (.int (nI y) :: .int (nI x) :: st) g σ := by
  refine z_imul X d ?_
  rw [pk_mul]; exact kk
theorem z_isubN (X : z_cx p s m args meth c own cc nL ret nm D cy z0) {x y : Nat} (h : y ≤ x) (d : decode cc pc = .ok (.isub, 1)) (kk : z_V p l e R s m args below meth c nL D cy z0 cells slots Q (pc + 1) (L) (.int (nI (x - y)) :: st) g σ) : z_V p l e R s m args below meth c nL D cy z0 cells slots Q (pc) (L) (.int (nI y) :: .int (nI x) :: st) g σ := by
  refine z_isub X d ?_
  rw [pk_sub h]; exact kk
theorem z_idivN (X : z_cx p s m args meth c own cc nL ret nm D cy z0) {x y : Nat} (hx : x < 2 ^ 31) (hy0 : 0 < y) (hy : y < 2 ^ 31) (d : decode cc pc = .ok (.idiv, 1)) (kk : z_V p l e R s m args below meth c nL D cy z0 cells slots Q (pc + 1) (L) (.int (nI (x / y)) :: st) g σ) : z_V p l e R s m args below meth c nL D cy z0 cells slots Q (pc) (L) (.int (nI y) :: .int (nI x) :: st) g σ := by
  refine z_idiv X (by rw [zk0, nI_eq hy (by decide)]; omega) d ?_
  rw [pk_div hx hy0 hy]; exact kk
theorem z_iremN (X : z_cx p s m args meth c own cc nL ret nm D cy z0) {x y : Nat} (hx : x < 2 ^ 31) (hy0 : 0 < y) (hy : y < 2 ^ 31) (d : decode cc pc = .ok (.irem, 1)) (kk : z_V p l e R s m args below meth c nL D cy z0 cells slots Q (pc + 1) (L) (.int (nI (x % y)) :: st) g σ) : z_V p l e R s m args below meth c nL D cy z0 cells slots Q (pc) (L) (.int (nI y) :: .int (nI x) :: st) g σ := by
  refine z_irem X (by rw [zk0, nI_eq hy (by decide)]; omega) d ?_
  rw [pk_rem hx hy0 hy]; exact kk
theorem z_ialdN (X : z_cx p s m args meth c own cc nL ret nm D cy z0) {i n : Nat} {x : Nat} (ha : z_ar g i 0 n) (hin : x < n) (hb : x < 2 ^ 31) (d : decode cc pc = .ok (.iaload, 1)) (kk : z_V p l e R s m args below meth c nL D cy z0 cells slots Q (pc + 1) (L) (.int (σ i x) :: st) g σ) : z_V p l e R s m args below meth c nL D cy z0 cells slots Q (pc) (L) (.int (nI x) :: .ref (g.2.1 i) :: st) g σ := by
  refine z_iald X ha (z_vin (by rw [nI_toInt hb]; omega) (by rw [nI_toInt hb]; omega)) d ?_
  rw [nI_clamp hb]; exact kk
theorem z_zaldN (X : z_cx p s m args meth c own cc nL ret nm D cy z0) {i n : Nat} {x : Nat} (ha : z_ar g i 1 n) (hin : x < n) (hb : x < 2 ^ 31) (d : decode cc pc = .ok (.baload, 1)) (kk : z_V p l e R s m args below meth c nL D cy z0 cells slots Q (pc + 1) (L) (.int (σ i x) :: st) g σ) : z_V p l e R s m args below meth c nL D cy z0 cells slots Q (pc) (L) (.int (nI x) :: .ref (g.2.1 i) :: st) g σ := by
  refine z_zald X ha (z_vin (by rw [nI_toInt hb]; omega) (by rw [nI_toInt hb]; omega)) d ?_
  rw [nI_clamp hb]; exact kk
theorem z_iastN (X : z_cx p s m args meth c own cc nL ret nm D cy z0) {i n : Nat} {x : Nat} {v : Int32} (ha : z_ar g i 0 n) (hin : x < n) (hb : x < 2 ^ 31) (d : decode cc pc = .ok (.iastore, 1)) (kk : z_V p l e R s m args below meth c nL D cy z0 cells slots Q (pc + 1) (L) (st) g (z_up σ i x v)) : z_V p l e R s m args below meth c nL D cy z0 cells slots Q (pc) (L) (.int v :: .int (nI x) :: .ref (g.2.1 i) :: st) g σ := by
  refine z_iast X ha (z_vin (by rw [nI_toInt hb]; omega) (by rw [nI_toInt hb]; omega)) d ?_
  rw [nI_clamp hb]; exact kk
theorem z_zastN (X : z_cx p s m args meth c own cc nL ret nm D cy z0) {i n : Nat} {x : Nat} {v : Int32} (ha : z_ar g i 1 n) (hin : x < n) (hb : x < 2 ^ 31) (hv : v = 0 ∨ v = 1) (d : decode cc pc = .ok (.bastore, 1)) (kk : z_V p l e R s m args below meth c nL D cy z0 cells slots Q (pc + 1) (L) (st) g (z_up σ i x v)) : z_V p l e R s m args below meth c nL D cy z0 cells slots Q (pc) (L) (.int v :: .int (nI x) :: .ref (g.2.1 i) :: st) g σ := by
  refine z_zast X ha (z_vin (by rw [nI_toInt hb]; omega) (by rw [nI_toInt hb]; omega)) hv d ?_
  rw [nI_clamp hb]; exact kk
theorem z_aaldM (X : z_cx p s m args meth c own cc nL ret nm D cy z0) {i n t j : Nat} {x : Nat} {C : String} (ht : 3 ≤ t ∧ t < 7) (htc : z_aty t = .object C) (ha : z_ar g i t n) (hin : x < n) (hb : x < 2 ^ 31) (hr : z_rf g i x j) (d : decode cc pc = .ok (.aaload, 1)) (kk : z_V p l e R s m args below meth c nL D cy z0 cells slots Q (pc + 1) (L) (.ref (g.2.1 j) :: st) g σ) : z_V p l e R s m args below meth c nL D cy z0 cells slots Q (pc) (L) (.int (nI x) :: .ref (g.2.1 i) :: st) g σ := by
  exact z_aald X ht htc ha (z_vin (by rw [nI_toInt hb]; omega) (by rw [nI_toInt hb]; omega)) (by rw [nI_clamp hb]; exact hr.1) hr.2 d kk
end ZR
