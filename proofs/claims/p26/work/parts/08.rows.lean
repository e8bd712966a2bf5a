/-! the rows of z_V, an instruction each -/
section ZR
variable {p : Program} {l : Launch} {e : Env} {R : Room} {s : State} {m : MethodId} {args : Array Value} {below : List Frame} {meth : Method} {c : Code} {cells slots : Nat} {Q : State → Prop} {own nm : String} {cc : ByteArray} {nL : Nat} {ret : Option FieldType} {D : va_G} {cy : Nat → ClassId} {z0 : zRg} {pc : Nat} {L : List (Option Value)} {st : List Value} {g : zSh} {σ : zIn}

theorem z_iconst (X : z_cx p s m args meth c own cc nL ret nm D cy z0) {n : Int} {v : Int32} (hv : Int32.ofInt n = v) (d : decode cc pc = .ok (.iconst n, 1)) (kk : z_V p l e R s m args below meth c nL D cy z0 cells slots Q (pc + 1) (L) (.int v :: st) g σ) : z_V p l e R s m args below meth c nL D cy z0 cells slots Q (pc) (L) (st) g σ := by
  intro H locs ls hP hD hS hL
  obtain ⟨hx, hb, hml, hown, hts, hN, hK, hz, hr, hnm, hlk⟩ := X
  exact lv_iconst hx hb d hv (kk H locs ls hP hD hS hL)
theorem z_bipush (X : z_cx p s m args meth c own cc nL ret nm D cy z0) {n : Int} {v : Int32} (hv : (Int8.ofInt n).toInt32 = v) (d : decode cc pc = .ok (.bipush n, 2)) (kk : z_V p l e R s m args below meth c nL D cy z0 cells slots Q (pc + 2) (L) (.int v :: st) g σ) : z_V p l e R s m args below meth c nL D cy z0 cells slots Q (pc) (L) (st) g σ := by
  intro H locs ls hP hD hS hL
  obtain ⟨hx, hb, hml, hown, hts, hN, hK, hz, hr, hnm, hlk⟩ := X
  exact lv_bipush hx hb d hv (kk H locs ls hP hD hS hL)
theorem z_sipush (X : z_cx p s m args meth c own cc nL ret nm D cy z0) {n : Int} {v : Int32} (hv : (Int16.ofInt n).toInt32 = v) (d : decode cc pc = .ok (.sipush n, 3)) (kk : z_V p l e R s m args below meth c nL D cy z0 cells slots Q (pc + 3) (L) (.int v :: st) g σ) : z_V p l e R s m args below meth c nL D cy z0 cells slots Q (pc) (L) (st) g σ := by
  intro H locs ls hP hD hS hL
  obtain ⟨hx, hb, hml, hown, hts, hN, hK, hz, hr, hnm, hlk⟩ := X
  exact lv_sipush hx hb d hv (kk H locs ls hP hD hS hL)
theorem z_iload_n (X : z_cx p s m args meth c own cc nL ret nm D cy z0) {k : Fin 4} {x : Int32} (d : decode cc pc = .ok (.iload_n k, 1)) (h : L[(k : Nat)]? = some (some (.int x))) (kk : z_V p l e R s m args below meth c nL D cy z0 cells slots Q (pc + 1) (L) (.int x :: st) g σ) : z_V p l e R s m args below meth c nL D cy z0 cells slots Q (pc) (L) (st) g σ := by
  intro H locs ls hP hD hS hL
  obtain ⟨hx, hb, hml, hown, hts, hN, hK, hz, hr, hnm, hlk⟩ := X
  exact lv_iload_n hx hb d rfl (hL.2.1 _ _ h) (kk H locs ls hP hD hS hL)
theorem z_iload (X : z_cx p s m args meth c own cc nL ret nm D cy z0) {i : Nat} {x : Int32} (d : decode cc pc = .ok (.iload i, 2)) (h : L[i]? = some (some (.int x))) (kk : z_V p l e R s m args below meth c nL D cy z0 cells slots Q (pc + 2) (L) (.int x :: st) g σ) : z_V p l e R s m args below meth c nL D cy z0 cells slots Q (pc) (L) (st) g σ := by
  intro H locs ls hP hD hS hL
  obtain ⟨hx, hb, hml, hown, hts, hN, hK, hz, hr, hnm, hlk⟩ := X
  exact lv_iload hx hb d (hL.2.1 _ _ h) (kk H locs ls hP hD hS hL)
theorem z_aload_n (X : z_cx p s m args meth c own cc nL ret nm D cy z0) {k : Fin 4} {x : Nat} (d : decode cc pc = .ok (.aload_n k, 1)) (h : L[(k : Nat)]? = some (some (.ref x))) (kk : z_V p l e R s m args below meth c nL D cy z0 cells slots Q (pc + 1) (L) (.ref x :: st) g σ) : z_V p l e R s m args below meth c nL D cy z0 cells slots Q (pc) (L) (st) g σ := by
  intro H locs ls hP hD hS hL
  obtain ⟨hx, hb, hml, hown, hts, hN, hK, hz, hr, hnm, hlk⟩ := X
  exact lv_aload_n hx hb d rfl (hL.2.1 _ _ h) (kk H locs ls hP hD hS hL)
theorem z_aload (X : z_cx p s m args meth c own cc nL ret nm D cy z0) {i : Nat} {x : Nat} (d : decode cc pc = .ok (.aload i, 2)) (h : L[i]? = some (some (.ref x))) (kk : z_V p l e R s m args below meth c nL D cy z0 cells slots Q (pc + 2) (L) (.ref x :: st) g σ) : z_V p l e R s m args below meth c nL D cy z0 cells slots Q (pc) (L) (st) g σ := by
  intro H locs ls hP hD hS hL
  obtain ⟨hx, hb, hml, hown, hts, hN, hK, hz, hr, hnm, hlk⟩ := X
  exact lv_aload hx hb d (hL.2.1 _ _ h) (kk H locs ls hP hD hS hL)
theorem z_aload_nN (X : z_cx p s m args meth c own cc nL ret nm D cy z0) {k : Fin 4} (d : decode cc pc = .ok (.aload_n k, 1)) (h : L[(k : Nat)]? = some (some .null)) (kk : z_V p l e R s m args below meth c nL D cy z0 cells slots Q (pc + 1) (L) (.null :: st) g σ) : z_V p l e R s m args below meth c nL D cy z0 cells slots Q (pc) (L) (st) g σ := by
  intro H locs ls hP hD hS hL
  obtain ⟨hx, hb, hml, hown, hts, hN, hK, hz, hr, hnm, hlk⟩ := X
  exact lv_aload_nN hx hb d rfl (hL.2.1 _ _ h) (kk H locs ls hP hD hS hL)
theorem z_aloadN (X : z_cx p s m args meth c own cc nL ret nm D cy z0) {i : Nat} (d : decode cc pc = .ok (.aload i, 2)) (h : L[i]? = some (some .null)) (kk : z_V p l e R s m args below meth c nL D cy z0 cells slots Q (pc + 2) (L) (.null :: st) g σ) : z_V p l e R s m args below meth c nL D cy z0 cells slots Q (pc) (L) (st) g σ := by
  intro H locs ls hP hD hS hL
  obtain ⟨hx, hb, hml, hown, hts, hN, hK, hz, hr, hnm, hlk⟩ := X
  exact lv_aloadN hx hb d (hL.2.1 _ _ h) (kk H locs ls hP hD hS hL)
theorem z_istore_n (X : z_cx p s m args meth c own cc nL ret nm D cy z0) {k : Fin 4} {x : Int32} (d : decode cc pc = .ok (.istore_n k, 1)) (hn : (k : Nat) < nL) (kk : z_V p l e R s m args below meth c nL D cy z0 cells slots Q (pc + 1) (L.set (k : Nat) (some (.int x))) (st) g σ) (hs : z_oS L (k : Nat) = true := by rfl) : z_V p l e R s m args below meth c nL D cy z0 cells slots Q (pc) (L) (.int x :: st) g σ := by
  intro H locs ls hP hD hS hL
  obtain ⟨hx, hb, hml, hown, hts, hN, hK, hz, hr, hnm, hlk⟩ := X
  exact lv_istore_n hx hb d rfl (z_L_ix hL) hn rfl (fun ls2 h2 => kk H locs ls2 hP hD hS (z_L_set hL rfl hs h2))
theorem z_istore (X : z_cx p s m args meth c own cc nL ret nm D cy z0) {i : Nat} {x : Int32} (d : decode cc pc = .ok (.istore i, 2)) (hn : i < nL) (kk : z_V p l e R s m args below meth c nL D cy z0 cells slots Q (pc + 2) (L.set i (some (.int x))) (st) g σ) (hs : z_oS L i = true := by rfl) : z_V p l e R s m args below meth c nL D cy z0 cells slots Q (pc) (L) (.int x :: st) g σ := by
  intro H locs ls hP hD hS hL
  obtain ⟨hx, hb, hml, hown, hts, hN, hK, hz, hr, hnm, hlk⟩ := X
  exact lv_istore hx hb d (z_L_ix hL) hn rfl (fun ls2 h2 => kk H locs ls2 hP hD hS (z_L_set hL rfl hs h2))
theorem z_astore_n (X : z_cx p s m args meth c own cc nL ret nm D cy z0) {k : Fin 4} {x : Nat} (d : decode cc pc = .ok (.astore_n k, 1)) (hn : (k : Nat) < nL) (kk : z_V p l e R s m args below meth c nL D cy z0 cells slots Q (pc + 1) (L.set (k : Nat) (some (.ref x))) (st) g σ) (hs : z_oS L (k : Nat) = true := by rfl) : z_V p l e R s m args below meth c nL D cy z0 cells slots Q (pc) (L) (.ref x :: st) g σ := by
  intro H locs ls hP hD hS hL
  obtain ⟨hx, hb, hml, hown, hts, hN, hK, hz, hr, hnm, hlk⟩ := X
  exact lv_astore_n hx hb d rfl (z_L_ix hL) hn rfl (fun ls2 h2 => kk H locs ls2 hP hD hS (z_L_set hL rfl hs h2))
theorem z_astore (X : z_cx p s m args meth c own cc nL ret nm D cy z0) {i : Nat} {x : Nat} (d : decode cc pc = .ok (.astore i, 2)) (hn : i < nL) (kk : z_V p l e R s m args below meth c nL D cy z0 cells slots Q (pc + 2) (L.set i (some (.ref x))) (st) g σ) (hs : z_oS L i = true := by rfl) : z_V p l e R s m args below meth c nL D cy z0 cells slots Q (pc) (L) (.ref x :: st) g σ := by
  intro H locs ls hP hD hS hL
  obtain ⟨hx, hb, hml, hown, hts, hN, hK, hz, hr, hnm, hlk⟩ := X
  exact lv_astore hx hb d (z_L_ix hL) hn rfl (fun ls2 h2 => kk H locs ls2 hP hD hS (z_L_set hL rfl hs h2))
theorem z_astore_nN (X : z_cx p s m args meth c own cc nL ret nm D cy z0) {k : Fin 4} (d : decode cc pc = .ok (.astore_n k, 1)) (hn : (k : Nat) < nL) (kk : z_V p l e R s m args below meth c nL D cy z0 cells slots Q (pc + 1) (L.set (k : Nat) (some .null)) (st) g σ) (hs : z_oS L (k : Nat) = true := by rfl) : z_V p l e R s m args below meth c nL D cy z0 cells slots Q (pc) (L) (.null :: st) g σ := by
  intro H locs ls hP hD hS hL
  obtain ⟨hx, hb, hml, hown, hts, hN, hK, hz, hr, hnm, hlk⟩ := X
  exact lv_astore_nN hx hb d rfl (z_L_ix hL) hn rfl (fun ls2 h2 => kk H locs ls2 hP hD hS (z_L_set hL rfl hs h2))
theorem z_astoreN (X : z_cx p s m args meth c own cc nL ret nm D cy z0) {i : Nat} (d : decode cc pc = .ok (.astore i, 2)) (hn : i < nL) (kk : z_V p l e R s m args below meth c nL D cy z0 cells slots Q (pc + 2) (L.set i (some .null)) (st) g σ) (hs : z_oS L i = true := by rfl) : z_V p l e R s m args below meth c nL D cy z0 cells slots Q (pc) (L) (.null :: st) g σ := by
  intro H locs ls hP hD hS hL
  obtain ⟨hx, hb, hml, hown, hts, hN, hK, hz, hr, hnm, hlk⟩ := X
  exact lv_astoreN hx hb d (z_L_ix hL) hn rfl (fun ls2 h2 => kk H locs ls2 hP hD hS (z_L_set hL rfl hs h2))
theorem z_iinc (X : z_cx p s m args meth c own cc nL ret nm D cy z0) {i : Nat} {n : Int} {x v : Int32} (d : decode cc pc = .ok (.iinc i n, 3)) (h : L[i]? = some (some (.int x))) (hv : Int32.ofInt n = v) (hn : i < nL) (kk : z_V p l e R s m args below meth c nL D cy z0 cells slots Q (pc + 3) (L.set i (some (.int (x + v)))) (st) g σ) (hs : z_oS L i = true := by rfl) : z_V p l e R s m args below meth c nL D cy z0 cells slots Q (pc) (L) (st) g σ := by
  intro H locs ls hP hD hS hL
  obtain ⟨hx, hb, hml, hown, hts, hN, hK, hz, hr, hnm, hlk⟩ := X
  subst hv
  obtain ⟨k, hk⟩ := List.getElem?_of_mem (z_ix_mem.mpr h)
  exact lv_iinc hx hb d (z_L_ix hL) hk rfl hn rfl (fun ls2 h2 => kk H locs ls2 hP hD hS (z_L_set hL rfl hs h2))
theorem z_iadd (X : z_cx p s m args meth c own cc nL ret nm D cy z0) {x y : Int32} (d : decode cc pc = .ok (.iadd, 1)) (kk : z_V p l e R s m args below meth c nL D cy z0 cells slots Q (pc + 1) (L) (.int (x + y) :: st) g σ) : z_V p l e R s m args below meth c nL D cy z0 cells slots Q (pc) (L) (.int y :: .int x :: st) g σ := by
  intro H locs ls hP hD hS hL
  obtain ⟨hx, hb, hml, hown, hts, hN, hK, hz, hr, hnm, hlk⟩ := X
  exact lv_iadd hx hb d (kk H locs ls hP hD hS hL)
theorem z_isub (X : z_cx p s m args meth c own cc nL ret nm D cy z0) {x y : Int32} (d : decode cc pc = .ok (.isub, 1)) (kk : z_V p l e R s m args below meth c nL D cy z0 cells slots Q (pc + 1) (L) (.int (x - y) :: st) g σ) : z_V p l e R s m args below meth c nL D cy z0 cells slots Q (pc) (L) (.int y :: .int x :: st) g σ := by
  intro H locs ls hP hD hS hL
  obtain ⟨hx, hb, hml, hown, hts, hN, hK, hz, hr, hnm, hlk⟩ := X
  exact lv_isub hx hb d (kk H locs ls hP hD hS hL)
theorem z_imul (X : z_cx p s m args meth c own cc nL ret nm D cy z0) {x y : Int32} (d : decode cc pc = .ok (.imul, 1)) (kk : z_V p l e R s m args below meth c nL D cy z0 cells slots Q (pc + 1) (L) (.int (x * y) :: st) g σ) : z_V p l e R s m args below meth c nL D cy z0 cells slots Q (pc) (L) (.int y :: .int x :: st) g σ := by
  intro H locs ls hP hD hS hL
  obtain ⟨hx, hb, hml, hown, hts, hN, hK, hz, hr, hnm, hlk⟩ := X
  exact lv_imul hx hb d (kk H locs ls hP hD hS hL)
theorem z_iand (X : z_cx p s m args meth c own cc nL ret nm D cy z0) {x y : Int32} (d : decode cc pc = .ok (.iand, 1)) (kk : z_V p l e R s m args below meth c nL D cy z0 cells slots Q (pc + 1) (L) (.int (x &&& y) :: st) g σ) : z_V p l e R s m args below meth c nL D cy z0 cells slots Q (pc) (L) (.int y :: .int x :: st) g σ := by
  intro H locs ls hP hD hS hL
  obtain ⟨hx, hb, hml, hown, hts, hN, hK, hz, hr, hnm, hlk⟩ := X
  exact lv_iand hx hb d (kk H locs ls hP hD hS hL)
theorem z_ior (X : z_cx p s m args meth c own cc nL ret nm D cy z0) {x y : Int32} (d : decode cc pc = .ok (.ior, 1)) (kk : z_V p l e R s m args below meth c nL D cy z0 cells slots Q (pc + 1) (L) (.int (x ||| y) :: st) g σ) : z_V p l e R s m args below meth c nL D cy z0 cells slots Q (pc) (L) (.int y :: .int x :: st) g σ := by
  intro H locs ls hP hD hS hL
  obtain ⟨hx, hb, hml, hown, hts, hN, hK, hz, hr, hnm, hlk⟩ := X
  exact lv_ior hx hb d (kk H locs ls hP hD hS hL)
theorem z_ixor (X : z_cx p s m args meth c own cc nL ret nm D cy z0) {x y : Int32} (d : decode cc pc = .ok (.ixor, 1)) (kk : z_V p l e R s m args below meth c nL D cy z0 cells slots Q (pc + 1) (L) (.int (x ^^^ y) :: st) g σ) : z_V p l e R s m args below meth c nL D cy z0 cells slots Q (pc) (L) (.int y :: .int x :: st) g σ := by
  intro H locs ls hP hD hS hL
  obtain ⟨hx, hb, hml, hown, hts, hN, hK, hz, hr, hnm, hlk⟩ := X
  exact lv_ixor hx hb d (kk H locs ls hP hD hS hL)
theorem z_ishl (X : z_cx p s m args meth c own cc nL ret nm D cy z0) {x y : Int32} (d : decode cc pc = .ok (.ishl, 1)) (kk : z_V p l e R s m args below meth c nL D cy z0 cells slots Q (pc + 1) (L) (.int (x <<< (y &&& 31)) :: st) g σ) : z_V p l e R s m args below meth c nL D cy z0 cells slots Q (pc) (L) (.int y :: .int x :: st) g σ := by
  intro H locs ls hP hD hS hL
  obtain ⟨hx, hb, hml, hown, hts, hN, hK, hz, hr, hnm, hlk⟩ := X
  exact lv_ishl hx hb d (kk H locs ls hP hD hS hL)
theorem z_ishr (X : z_cx p s m args meth c own cc nL ret nm D cy z0) {x y : Int32} (d : decode cc pc = .ok (.ishr, 1)) (kk : z_V p l e R s m args below meth c nL D cy z0 cells slots Q (pc + 1) (L) (.int (x >>> (y &&& 31)) :: st) g σ) : z_V p l e R s m args below meth c nL D cy z0 cells slots Q (pc) (L) (.int y :: .int x :: st) g σ := by
  intro H locs ls hP hD hS hL
  obtain ⟨hx, hb, hml, hown, hts, hN, hK, hz, hr, hnm, hlk⟩ := X
  exact lv_ishr hx hb d (kk H locs ls hP hD hS hL)
theorem z_idiv (X : z_cx p s m args meth c own cc nL ret nm D cy z0) {x y : Int32} (hne : ¬ y = 0) (d : decode cc pc = .ok (.idiv, 1)) (kk : z_V p l e R s m args below meth c nL D cy z0 cells slots Q (pc + 1) (L) (.int (x / y) :: st) g σ) : z_V p l e R s m args below meth c nL D cy z0 cells slots Q (pc) (L) (.int y :: .int x :: st) g σ := by
  intro H locs ls hP hD hS hL
  obtain ⟨hx, hb, hml, hown, hts, hN, hK, hz, hr, hnm, hlk⟩ := X
  exact lv_idiv hx hb d hne (kk H locs ls hP hD hS hL)
theorem z_irem (X : z_cx p s m args meth c own cc nL ret nm D cy z0) {x y : Int32} (hne : ¬ y = 0) (d : decode cc pc = .ok (.irem, 1)) (kk : z_V p l e R s m args below meth c nL D cy z0 cells slots Q (pc + 1) (L) (.int (x - x / y * y) :: st) g σ) : z_V p l e R s m args below meth c nL D cy z0 cells slots Q (pc) (L) (.int y :: .int x :: st) g σ := by
  intro H locs ls hP hD hS hL
  obtain ⟨hx, hb, hml, hown, hts, hN, hK, hz, hr, hnm, hlk⟩ := X
  exact lv_irem hx hb d hne (kk H locs ls hP hD hS hL)
theorem z_ineg (X : z_cx p s m args meth c own cc nL ret nm D cy z0) {x : Int32} (d : decode cc pc = .ok (.ineg, 1)) (kk : z_V p l e R s m args below meth c nL D cy z0 cells slots Q (pc + 1) (L) (.int (-x) :: st) g σ) : z_V p l e R s m args below meth c nL D cy z0 cells slots Q (pc) (L) (.int x :: st) g σ := by
  intro H locs ls hP hD hS hL
  obtain ⟨hx, hb, hml, hown, hts, hN, hK, hz, hr, hnm, hlk⟩ := X
  exact lv_ineg hx hb d (kk H locs ls hP hD hS hL)
theorem z_i2l (X : z_cx p s m args meth c own cc nL ret nm D cy z0) {x : Int32} (d : decode cc pc = .ok (.i2l, 1)) (kk : z_V p l e R s m args below meth c nL D cy z0 cells slots Q (pc + 1) (L) (.long x.toInt64 :: st) g σ) : z_V p l e R s m args below meth c nL D cy z0 cells slots Q (pc) (L) (.int x :: st) g σ := by
  intro H locs ls hP hD hS hL
  obtain ⟨hx, hb, hml, hown, hts, hN, hK, hz, hr, hnm, hlk⟩ := X
  exact lv_i2l hx hb d rfl (kk H locs ls hP hD hS hL)
theorem z_lcmp (X : z_cx p s m args meth c own cc nL ret nm D cy z0) {x y : Int64} (d : decode cc pc = .ok (.lcmp, 1)) (kk : z_V p l e R s m args below meth c nL D cy z0 cells slots Q (pc + 1) (L) (.int (lg_cmp x y) :: st) g σ) : z_V p l e R s m args below meth c nL D cy z0 cells slots Q (pc) (L) (.long y :: .long x :: st) g σ := by
  intro H locs ls hP hD hS hL
  obtain ⟨hx, hb, hml, hown, hts, hN, hK, hz, hr, hnm, hlk⟩ := X
  exact W.lcmp hx hb d (kk H locs ls hP hD hS hL)
theorem z_dup (X : z_cx p s m args meth c own cc nL ret nm D cy z0) {v : Value} (hv : v.category = 1) (d : decode cc pc = .ok (.dup, 1)) (kk : z_V p l e R s m args below meth c nL D cy z0 cells slots Q (pc + 1) (L) (v :: v :: st) g σ) : z_V p l e R s m args below meth c nL D cy z0 cells slots Q (pc) (L) (v :: st) g σ := by
  intro H locs ls hP hD hS hL
  obtain ⟨hx, hb, hml, hown, hts, hN, hK, hz, hr, hnm, hlk⟩ := X
  exact lv_dup hx hb d hv (kk H locs ls hP hD hS hL)
theorem z_dup2 (X : z_cx p s m args meth c own cc nL ret nm D cy z0) {v w : Value} (hv : v.category = 1) (hw : w.category = 1) (d : decode cc pc = .ok (.dup2, 1)) (kk : z_V p l e R s m args below meth c nL D cy z0 cells slots Q (pc + 1) (L) (v :: w :: v :: w :: st) g σ) : z_V p l e R s m args below meth c nL D cy z0 cells slots Q (pc) (L) (v :: w :: st) g σ := by
  intro H locs ls hP hD hS hL
  obtain ⟨hx, hb, hml, hown, hts, hN, hK, hz, hr, hnm, hlk⟩ := X
  exact lv_dup2_11 hx hb d hv hw (kk H locs ls hP hD hS hL)
theorem z_null (X : z_cx p s m args meth c own cc nL ret nm D cy z0)  (d : decode cc pc = .ok (.aconst_null, 1)) (kk : z_V p l e R s m args below meth c nL D cy z0 cells slots Q (pc + 1) (L) (.null :: st) g σ) : z_V p l e R s m args below meth c nL D cy z0 cells slots Q (pc) (L) (st) g σ := by
  intro H locs ls hP hD hS hL
  obtain ⟨hx, hb, hml, hown, hts, hN, hK, hz, hr, hnm, hlk⟩ := X
  exact lv_null hx hb d (kk H locs ls hP hD hS hL)
theorem z_if_eq (X : z_cx p s m args meth c own cc nL ret nm D cy z0) {x : Int32} {off : Int} {tgt : Nat} (d : decode cc pc = .ok (.ifCond .eq off, 3)) (ht : (pc : Int) + off = (tgt : Int)) (kt : x = 0 → z_V p l e R s m args below meth c nL D cy z0 cells slots Q (tgt) (L) (st) g σ) (kf : ¬ (x = 0) → z_V p l e R s m args below meth c nL D cy z0 cells slots Q (pc + 3) (L) (st) g σ) : z_V p l e R s m args below meth c nL D cy z0 cells slots Q (pc) (L) (.int x :: st) g σ := by
  intro H locs ls hP hD hS hL
  obtain ⟨hx, hb, hml, hown, hts, hN, hK, hz, hr, hnm, hlk⟩ := X
  exact lv_if_eq hx hb d ht (fun h => kt h H locs ls hP hD hS hL) (fun h => kf h H locs ls hP hD hS hL)
theorem z_icmp_eq (X : z_cx p s m args meth c own cc nL ret nm D cy z0) {x y : Int32} {off : Int} {tgt : Nat} (d : decode cc pc = .ok (.if_icmp .eq off, 3)) (ht : (pc : Int) + off = (tgt : Int)) (kt : x = y → z_V p l e R s m args below meth c nL D cy z0 cells slots Q (tgt) (L) (st) g σ) (kf : ¬ (x = y) → z_V p l e R s m args below meth c nL D cy z0 cells slots Q (pc + 3) (L) (st) g σ) : z_V p l e R s m args below meth c nL D cy z0 cells slots Q (pc) (L) (.int y :: .int x :: st) g σ := by
  intro H locs ls hP hD hS hL
  obtain ⟨hx, hb, hml, hown, hts, hN, hK, hz, hr, hnm, hlk⟩ := X
  exact lv_icmp_eq hx hb d ht (fun h => kt h H locs ls hP hD hS hL) (fun h => kf h H locs ls hP hD hS hL)
theorem z_if_ne (X : z_cx p s m args meth c own cc nL ret nm D cy z0) {x : Int32} {off : Int} {tgt : Nat} (d : decode cc pc = .ok (.ifCond .ne off, 3)) (ht : (pc : Int) + off = (tgt : Int)) (kt : ¬ x = 0 → z_V p l e R s m args below meth c nL D cy z0 cells slots Q (tgt) (L) (st) g σ) (kf : x = 0 → z_V p l e R s m args below meth c nL D cy z0 cells slots Q (pc + 3) (L) (st) g σ) : z_V p l e R s m args below meth c nL D cy z0 cells slots Q (pc) (L) (.int x :: st) g σ := by
  intro H locs ls hP hD hS hL
  obtain ⟨hx, hb, hml, hown, hts, hN, hK, hz, hr, hnm, hlk⟩ := X
  exact lv_if_ne hx hb d ht (fun h => kt h H locs ls hP hD hS hL) (fun h => kf h H locs ls hP hD hS hL)
theorem z_icmp_ne (X : z_cx p s m args meth c own cc nL ret nm D cy z0) {x y : Int32} {off : Int} {tgt : Nat} (d : decode cc pc = .ok (.if_icmp .ne off, 3)) (ht : (pc : Int) + off = (tgt : Int)) (kt : ¬ x = y → z_V p l e R s m args below meth c nL D cy z0 cells slots Q (tgt) (L) (st) g σ) (kf : x = y → z_V p l e R s m args below meth c nL D cy z0 cells slots Q (pc + 3) (L) (st) g σ) : z_V p l e R s m args below meth c nL D cy z0 cells slots Q (pc) (L) (.int y :: .int x :: st) g σ := by
  intro H locs ls hP hD hS hL
  obtain ⟨hx, hb, hml, hown, hts, hN, hK, hz, hr, hnm, hlk⟩ := X
  exact lv_icmp_ne hx hb d ht (fun h => kt h H locs ls hP hD hS hL) (fun h => kf h H locs ls hP hD hS hL)
theorem z_if_lt (X : z_cx p s m args meth c own cc nL ret nm D cy z0) {x : Int32} {off : Int} {tgt : Nat} (d : decode cc pc = .ok (.ifCond .lt off, 3)) (ht : (pc : Int) + off = (tgt : Int)) (kt : x < 0 → z_V p l e R s m args below meth c nL D cy z0 cells slots Q (tgt) (L) (st) g σ) (kf : ¬ (x < 0) → z_V p l e R s m args below meth c nL D cy z0 cells slots Q (pc + 3) (L) (st) g σ) : z_V p l e R s m args below meth c nL D cy z0 cells slots Q (pc) (L) (.int x :: st) g σ := by
  intro H locs ls hP hD hS hL
  obtain ⟨hx, hb, hml, hown, hts, hN, hK, hz, hr, hnm, hlk⟩ := X
  exact lv_if_lt hx hb d ht (fun h => kt h H locs ls hP hD hS hL) (fun h => kf h H locs ls hP hD hS hL)
theorem z_icmp_lt (X : z_cx p s m args meth c own cc nL ret nm D cy z0) {x y : Int32} {off : Int} {tgt : Nat} (d : decode cc pc = .ok (.if_icmp .lt off, 3)) (ht : (pc : Int) + off = (tgt : Int)) (kt : x < y → z_V p l e R s m args below meth c nL D cy z0 cells slots Q (tgt) (L) (st) g σ) (kf : ¬ (x < y) → z_V p l e R s m args below meth c nL D cy z0 cells slots Q (pc + 3) (L) (st) g σ) : z_V p l e R s m args below meth c nL D cy z0 cells slots Q (pc) (L) (.int y :: .int x :: st) g σ := by
  intro H locs ls hP hD hS hL
  obtain ⟨hx, hb, hml, hown, hts, hN, hK, hz, hr, hnm, hlk⟩ := X
  exact lv_icmp_lt hx hb d ht (fun h => kt h H locs ls hP hD hS hL) (fun h => kf h H locs ls hP hD hS hL)
theorem z_if_ge (X : z_cx p s m args meth c own cc nL ret nm D cy z0) {x : Int32} {off : Int} {tgt : Nat} (d : decode cc pc = .ok (.ifCond .ge off, 3)) (ht : (pc : Int) + off = (tgt : Int)) (kt : 0 ≤ x → z_V p l e R s m args below meth c nL D cy z0 cells slots Q (tgt) (L) (st) g σ) (kf : ¬ (0 ≤ x) → z_V p l e R s m args below meth c nL D cy z0 cells slots Q (pc + 3) (L) (st) g σ) : z_V p l e R s m args below meth c nL D cy z0 cells slots Q (pc) (L) (.int x :: st) g σ := by
  intro H locs ls hP hD hS hL
  obtain ⟨hx, hb, hml, hown, hts, hN, hK, hz, hr, hnm, hlk⟩ := X
  exact lv_if_ge hx hb d ht (fun h => kt h H locs ls hP hD hS hL) (fun h => kf h H locs ls hP hD hS hL)
theorem z_icmp_ge (X : z_cx p s m args meth c own cc nL ret nm D cy z0) {x y : Int32} {off : Int} {tgt : Nat} (d : decode cc pc = .ok (.if_icmp .ge off, 3)) (ht : (pc : Int) + off = (tgt : Int)) (kt : y ≤ x → z_V p l e R s m args below meth c nL D cy z0 cells slots Q (tgt) (L) (st) g σ) (kf : ¬ (y ≤ x) → z_V p l e R s m args below meth c nL D cy z0 cells slots Q (pc + 3) (L) (st) g σ) : z_V p l e R s m args below meth c nL D cy z0 cells slots Q (pc) (L) (.int y :: .int x :: st) g σ := by
  intro H locs ls hP hD hS hL
  obtain ⟨hx, hb, hml, hown, hts, hN, hK, hz, hr, hnm, hlk⟩ := X
  exact lv_icmp_ge hx hb d ht (fun h => kt h H locs ls hP hD hS hL) (fun h => kf h H locs ls hP hD hS hL)
theorem z_if_gt (X : z_cx p s m args meth c own cc nL ret nm D cy z0) {x : Int32} {off : Int} {tgt : Nat} (d : decode cc pc = .ok (.ifCond .gt off, 3)) (ht : (pc : Int) + off = (tgt : Int)) (kt : 0 < x → z_V p l e R s m args below meth c nL D cy z0 cells slots Q (tgt) (L) (st) g σ) (kf : ¬ (0 < x) → z_V p l e R s m args below meth c nL D cy z0 cells slots Q (pc + 3) (L) (st) g σ) : z_V p l e R s m args below meth c nL D cy z0 cells slots Q (pc) (L) (.int x :: st) g σ := by
  intro H locs ls hP hD hS hL
  obtain ⟨hx, hb, hml, hown, hts, hN, hK, hz, hr, hnm, hlk⟩ := X
  exact lv_if_gt hx hb d ht (fun h => kt h H locs ls hP hD hS hL) (fun h => kf h H locs ls hP hD hS hL)
theorem z_icmp_gt (X : z_cx p s m args meth c own cc nL ret nm D cy z0) {x y : Int32} {off : Int} {tgt : Nat} (d : decode cc pc = .ok (.if_icmp .gt off, 3)) (ht : (pc : Int) + off = (tgt : Int)) (kt : y < x → z_V p l e R s m args below meth c nL D cy z0 cells slots Q (tgt) (L) (st) g σ) (kf : ¬ (y < x) → z_V p l e R s m args below meth c nL D cy z0 cells slots Q (pc + 3) (L) (st) g σ) : z_V p l e R s m args below meth c nL D cy z0 cells slots Q (pc) (L) (.int y :: .int x :: st) g σ := by
  intro H locs ls hP hD hS hL
  obtain ⟨hx, hb, hml, hown, hts, hN, hK, hz, hr, hnm, hlk⟩ := X
  exact lv_icmp_gt hx hb d ht (fun h => kt h H locs ls hP hD hS hL) (fun h => kf h H locs ls hP hD hS hL)
theorem z_if_le (X : z_cx p s m args meth c own cc nL ret nm D cy z0) {x : Int32} {off : Int} {tgt : Nat} (d : decode cc pc = .ok (.ifCond .le off, 3)) (ht : (pc : Int) + off = (tgt : Int)) (kt : x ≤ 0 → z_V p l e R s m args below meth c nL D cy z0 cells slots Q (tgt) (L) (st) g σ) (kf : ¬ (x ≤ 0) → z_V p l e R s m args below meth c nL D cy z0 cells slots Q (pc + 3) (L) (st) g σ) : z_V p l e R s m args below meth c nL D cy z0 cells slots Q (pc) (L) (.int x :: st) g σ := by
  intro H locs ls hP hD hS hL
  obtain ⟨hx, hb, hml, hown, hts, hN, hK, hz, hr, hnm, hlk⟩ := X
  exact lv_if_le hx hb d ht (fun h => kt h H locs ls hP hD hS hL) (fun h => kf h H locs ls hP hD hS hL)
theorem z_icmp_le (X : z_cx p s m args meth c own cc nL ret nm D cy z0) {x y : Int32} {off : Int} {tgt : Nat} (d : decode cc pc = .ok (.if_icmp .le off, 3)) (ht : (pc : Int) + off = (tgt : Int)) (kt : x ≤ y → z_V p l e R s m args below meth c nL D cy z0 cells slots Q (tgt) (L) (st) g σ) (kf : ¬ (x ≤ y) → z_V p l e R s m args below meth c nL D cy z0 cells slots Q (pc + 3) (L) (st) g σ) : z_V p l e R s m args below meth c nL D cy z0 cells slots Q (pc) (L) (.int y :: .int x :: st) g σ := by
  intro H locs ls hP hD hS hL
  obtain ⟨hx, hb, hml, hown, hts, hN, hK, hz, hr, hnm, hlk⟩ := X
  exact lv_icmp_le hx hb d ht (fun h => kt h H locs ls hP hD hS hL) (fun h => kf h H locs ls hP hD hS hL)
theorem z_goto (X : z_cx p s m args meth c own cc nL ret nm D cy z0) {off : Int} {tgt : Nat} (d : decode cc pc = .ok (.goto off, 3)) (ht : (pc : Int) + off = (tgt : Int)) (kk : z_V p l e R s m args below meth c nL D cy z0 cells slots Q (tgt) (L) (st) g σ) : z_V p l e R s m args below meth c nL D cy z0 cells slots Q (pc) (L) (st) g σ := by
  intro H locs ls hP hD hS hL
  obtain ⟨hx, hb, hml, hown, hts, hN, hK, hz, hr, hnm, hlk⟩ := X
  exact lv_goto hx hb d ht (kk H locs ls hP hD hS hL)
theorem z_ifnull (X : z_cx p s m args meth c own cc nL ret nm D cy z0) {x : Nat} {off : Int} (d : decode cc pc = .ok (.ifnull off, 3)) (kk : z_V p l e R s m args below meth c nL D cy z0 cells slots Q (pc + 3) (L) (st) g σ) : z_V p l e R s m args below meth c nL D cy z0 cells slots Q (pc) (L) (.ref x :: st) g σ := by
  intro H locs ls hP hD hS hL
  obtain ⟨hx, hb, hml, hown, hts, hN, hK, hz, hr, hnm, hlk⟩ := X
  exact lv_ifnull hx hb d (kk H locs ls hP hD hS hL)
theorem z_ifnullN (X : z_cx p s m args meth c own cc nL ret nm D cy z0) {off : Int} {tgt : Nat} (d : decode cc pc = .ok (.ifnull off, 3)) (ht : (pc : Int) + off = (tgt : Int)) (kk : z_V p l e R s m args below meth c nL D cy z0 cells slots Q (tgt) (L) (st) g σ) : z_V p l e R s m args below meth c nL D cy z0 cells slots Q (pc) (L) (.null :: st) g σ := by
  intro H locs ls hP hD hS hL
  obtain ⟨hx, hb, hml, hown, hts, hN, hK, hz, hr, hnm, hlk⟩ := X
  exact lv_ifnullN hx hb d ht (kk H locs ls hP hD hS hL)
theorem z_ifnonnull (X : z_cx p s m args meth c own cc nL ret nm D cy z0) {x : Nat} {off : Int} {tgt : Nat} (d : decode cc pc = .ok (.ifnonnull off, 3)) (ht : (pc : Int) + off = (tgt : Int)) (kk : z_V p l e R s m args below meth c nL D cy z0 cells slots Q (tgt) (L) (st) g σ) : z_V p l e R s m args below meth c nL D cy z0 cells slots Q (pc) (L) (.ref x :: st) g σ := by
  intro H locs ls hP hD hS hL
  obtain ⟨hx, hb, hml, hown, hts, hN, hK, hz, hr, hnm, hlk⟩ := X
  exact lv_ifnonnull hx hb d ht (kk H locs ls hP hD hS hL)
theorem z_ifnonnullN (X : z_cx p s m args meth c own cc nL ret nm D cy z0) {off : Int} (d : decode cc pc = .ok (.ifnonnull off, 3)) (kk : z_V p l e R s m args below meth c nL D cy z0 cells slots Q (pc + 3) (L) (st) g σ) : z_V p l e R s m args below meth c nL D cy z0 cells slots Q (pc) (L) (.null :: st) g σ := by
  intro H locs ls hP hD hS hL
  obtain ⟨hx, hb, hml, hown, hts, hN, hK, hz, hr, hnm, hlk⟩ := X
  exact lv_ifnonnullN hx hb d (kk H locs ls hP hD hS hL)
theorem z_ldc (X : z_cx p s m args meth c own cc nL ret nm D cy z0) {index : Nat} {v : Int32} (hc : Cond.constant own index v ∈ lw_good) (d : decode cc pc = .ok (.ldc index, 2)) (kk : z_V p l e R s m args below meth c nL D cy z0 cells slots Q (pc + 2) (L) (.int v :: st) g σ) : z_V p l e R s m args below meth c nL D cy z0 cells slots Q (pc) (L) (st) g σ := by
  intro H locs ls hP hD hS hL
  obtain ⟨hx, hb, hml, hown, hts, hN, hK, hz, hr, hnm, hlk⟩ := X
  exact lv_ldc hx hb hown (hts _ hc) d (kk H locs ls hP hD hS hL)
theorem z_ldcw (X : z_cx p s m args meth c own cc nL ret nm D cy z0) {index : Nat} {v : Int32} (hc : Cond.constant own index v ∈ lw_good) (d : decode cc pc = .ok (.ldc_w index, 3)) (kk : z_V p l e R s m args below meth c nL D cy z0 cells slots Q (pc + 3) (L) (.int v :: st) g σ) : z_V p l e R s m args below meth c nL D cy z0 cells slots Q (pc) (L) (st) g σ := by
  intro H locs ls hP hD hS hL
  obtain ⟨hx, hb, hml, hown, hts, hN, hK, hz, hr, hnm, hlk⟩ := X
  exact lv_ldcw hx hb hown (hts _ hc) d (kk H locs ls hP hD hS hL)
theorem z_widen {ce sl : Nat} (h1 : cells ≤ ce) (h2 : slots ≤ sl) (kk : z_V p l e R s m args below meth c nL D cy z0 ce sl Q (pc) (L) (st) g σ) : z_V p l e R s m args below meth c nL D cy z0 cells slots Q (pc) (L) (st) g σ := fun H locs ls hP hD hS hL => W.widen h1 h2 (kk H locs ls hP hD hS hL)
theorem z_iret (X : z_cx p s m args meth c own cc nL ret nm D cy z0) {rc rs : Nat} {Post : Option Value → zSh → zIn → Prop} {v : Int32} (hc : cells ≤ rc) (hs : slots ≤ rs) (hre : ret = some .int) (d : decode cc pc = .ok (.ireturn, 1)) (hp : Post (some (.int v)) g σ) : z_V p l e R s m args below meth c nL D cy z0 cells slots (MQ below (z_Qc D cy z0 Post) args s rc rs (z_A z0)) (pc) (L) ([.int v]) g σ := by
  intro H locs ls hP hD hS hL
  obtain ⟨hx, hb, hml, hown, hts, hN, hK, hz, hr, hnm, hlk⟩ := X
  subst hre
  refine W.widen hc hs ?_
  exact W.iret hx hb hr (fun t ht hW => ⟨⟨_, g, σ, rfl, hp, by rw [ht]; exact hP, hD⟩, hS.F ht⟩) hS.2.2 d
theorem z_zret (X : z_cx p s m args meth c own cc nL ret nm D cy z0) {rc rs : Nat} {Post : Option Value → zSh → zIn → Prop} {v : Int32} (hc : cells ≤ rc) (hs : slots ≤ rs) (hre : ret = some .boolean) (hv : v = 0 ∨ v = 1) (d : decode cc pc = .ok (.ireturn, 1)) (hp : Post (some (.int v)) g σ) : z_V p l e R s m args below meth c nL D cy z0 cells slots (MQ below (z_Qc D cy z0 Post) args s rc rs (z_A z0)) (pc) (L) ([.int v]) g σ := by
  intro H locs ls hP hD hS hL
  obtain ⟨hx, hb, hml, hown, hts, hN, hK, hz, hr, hnm, hlk⟩ := X
  subst hre
  refine W.widen hc hs ?_
  exact W.zret hx hb hr (by rcases hv with rfl | rfl <;> rfl) (fun t ht hW => ⟨⟨_, g, σ, rfl, hp, by rw [ht]; exact hP, hD⟩, hS.F ht⟩) hS.2.2 d
theorem z_vret (X : z_cx p s m args meth c own cc nL ret nm D cy z0) {rc rs : Nat} {Post : Option Value → zSh → zIn → Prop} (hc : cells ≤ rc) (hs : slots ≤ rs) (hre : ret = none) (d : decode cc pc = .ok (.return_, 1)) (hp : Post none g σ) : z_V p l e R s m args below meth c nL D cy z0 cells slots (MQ below (z_Qc D cy z0 Post) args s rc rs (z_A z0)) (pc) (L) ([]) g σ := by
  intro H locs ls hP hD hS hL
  obtain ⟨hx, hb, hml, hown, hts, hN, hK, hz, hr, hnm, hlk⟩ := X
  subst hre
  refine W.widen hc hs ?_
  exact W.vret hx hb hr (fun t ht hW => ⟨⟨_, g, σ, rfl, hp, by rw [ht]; exact hP, hD⟩, hS.F ht⟩) hS.2.2 d
theorem z_aret (X : z_cx p s m args meth c own cc nL ret nm D cy z0) {rc rs : Nat} {Post : Option Value → zSh → zIn → Prop} {v : Value} {rt : FieldType} (hc : cells ≤ rc) (hs : slots ≤ rs) (hre : ret = some rt) (hrt : (∃ n, rt = .object n) ∨ ∃ t, rt = .array t) (hv : v = .null ∨ ∃ a, v = .ref a) (d : decode cc pc = .ok (.areturn, 1)) (hp : Post (some v) g σ) : z_V p l e R s m args below meth c nL D cy z0 cells slots (MQ below (z_Qc D cy z0 Post) args s rc rs (z_A z0)) (pc) (L) ([v]) g σ := by
  intro H locs ls hP hD hS hL
  obtain ⟨hx, hb, hml, hown, hts, hN, hK, hz, hr, hnm, hlk⟩ := X
  subst hre
  refine W.widen hc hs ?_
  exact W.aret hx hb hr hrt hv (fun t ht hW => ⟨⟨_, g, σ, rfl, hp, by rw [ht]; exact hP, hD⟩, hS.F ht⟩) hS.2.2 d
theorem z_lload_n (X : z_cx p s m args meth c own cc nL ret nm D cy z0) {k : Fin 4} {x : Int64} (d : decode cc pc = .ok (.lload_n k, 1)) (h : L[(k : Nat)]? = some (some (.long x))) (kk : z_V p l e R s m args below meth c nL D cy z0 cells slots Q (pc + 1) (L) (.long x :: st) g σ) : z_V p l e R s m args below meth c nL D cy z0 cells slots Q (pc) (L) (st) g σ := by
  intro H locs ls hP hD hS hL
  obtain ⟨hx, hb, hml, hown, hts, hN, hK, hz, hr, hnm, hlk⟩ := X
  exact lv_lload_n hx hb d rfl (hL.2.1 _ _ h) (kk H locs ls hP hD hS hL)
theorem z_lstore_n (X : z_cx p s m args meth c own cc nL ret nm D cy z0) {k : Fin 4} {x : Int64} (d : decode cc pc = .ok (.lstore_n k, 1)) (hn : (k : Nat) + 1 < nL) (kk : z_V p l e R s m args below meth c nL D cy z0 cells slots Q (pc + 1) ((L.set (k : Nat) (some (.long x))).set ((k : Nat) + 1) none) (st) g σ) (hs : z_oS L (k : Nat) = true := by rfl) (hl : (k : Nat) + 1 < L.length := by decide) : z_V p l e R s m args below meth c nL D cy z0 cells slots Q (pc) (L) (.long x :: st) g σ := by
  intro H locs ls hP hD hS hL
  obtain ⟨hx, hb, hml, hown, hts, hN, hK, hz, hr, hnm, hlk⟩ := X
  exact lv_lstore_n hx hb d rfl (z_L_ix hL) hn rfl (fun ls2 h2 => kk H locs ls2 hP hD hS (z_L_set2 hL rfl hs hl h2))
theorem z_ldc2 (X : z_cx p s m args meth c own cc nL ret nm D cy z0) {idx : Nat} {v : Int64} (hc : Cond.constantLong own idx v ∈ lw_good) (d : decode cc pc = .ok (.ldc2_w idx, 3)) (kk : z_V p l e R s m args below meth c nL D cy z0 cells slots Q (pc + 3) (L) (.long v :: st) g σ) : z_V p l e R s m args below meth c nL D cy z0 cells slots Q (pc) (L) (st) g σ := by
  intro H locs ls hP hD hS hL
  obtain ⟨hx, hb, hml, hown, hts, hN, hK, hz, hr, hnm, hlk⟩ := X
  exact lv_ldc2 hx hb hown (hts _ hc) d (kk H locs ls hP hD hS hL)
theorem z_lmul (X : z_cx p s m args meth c own cc nL ret nm D cy z0) {x y : Int64} (d : decode cc pc = .ok (.lmul, 1)) (kk : z_V p l e R s m args below meth c nL D cy z0 cells slots Q (pc + 1) (L) (.long (x * y) :: st) g σ) : z_V p l e R s m args below meth c nL D cy z0 cells slots Q (pc) (L) (.long y :: .long x :: st) g σ := by
  intro H locs ls hP hD hS hL
  obtain ⟨hx, hb, hml, hown, hts, hN, hK, hz, hr, hnm, hlk⟩ := X
  exact lv_lmul hx hb d (kk H locs ls hP hD hS hL)
theorem z_ladd (X : z_cx p s m args meth c own cc nL ret nm D cy z0) {x y : Int64} (d : decode cc pc = .ok (.ladd, 1)) (kk : z_V p l e R s m args below meth c nL D cy z0 cells slots Q (pc + 1) (L) (.long (x + y) :: st) g σ) : z_V p l e R s m args below meth c nL D cy z0 cells slots Q (pc) (L) (.long y :: .long x :: st) g σ := by
  intro H locs ls hP hD hS hL
  obtain ⟨hx, hb, hml, hown, hts, hN, hK, hz, hr, hnm, hlk⟩ := X
  exact lv_ladd hx hb d (kk H locs ls hP hD hS hL)
theorem z_iushr (X : z_cx p s m args meth c own cc nL ret nm D cy z0) {x y : Int32} (d : decode cc pc = .ok (.iushr, 1)) (kk : z_V p l e R s m args below meth c nL D cy z0 cells slots Q (pc + 1) (L) (.int (x.toUInt32 >>> (y.toUInt32 &&& Int32.toUInt32 31)).toInt32 :: st) g σ) : z_V p l e R s m args below meth c nL D cy z0 cells slots Q (pc) (L) (.int y :: .int x :: st) g σ := by
  intro H locs ls hP hD hS hL
  obtain ⟨hx, hb, hml, hown, hts, hN, hK, hz, hr, hnm, hlk⟩ := X
  exact lv_iushr hx hb d rfl (kk H locs ls hP hD hS hL)
end ZR
