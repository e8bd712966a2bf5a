/-! more words: counting, the book -/
theorem z_up_app {σ : zIn} {i k i' k' : Nat} {v : Int32} : z_up σ i k v i' k' = if i' = i then (if k' = k then v else σ i' k') else σ i' k' := rfl
/-- σ with row i written anew -/
def z_put (σ : zIn) (i : Nat) (f : Nat → Int32) : zIn := fun i' k' => if i' = i then f k' else σ i' k'
theorem z_put_app {σ : zIn} {i i' k' : Nat} {f : Nat → Int32} : z_put σ i f i' k' = if i' = i then f k' else σ i' k' := rfl
theorem zin_neg {e : Int32} {n : Nat} (h : e < 0) : zin e n = false := by
  unfold zin; rw [Int32.lt_iff_toInt_lt] at h
  have : (0 : Int32).toInt = 0 := by decide
  exact decide_eq_false (by omega)
theorem zin_ge {e : Int32} {n : Nat} (hn : n < 2 ^ 31) (h : nI n ≤ e) : zin e n = false := by
  unfold zin; rw [Int32.le_iff_toInt_le, nI_toInt hn] at h
  exact decide_eq_false (by omega)
theorem zin_of {e : Int32} {n : Nat} (hn : n < 2 ^ 31) (h0 : ¬ e < 0) (h : ¬ nI n ≤ e) : zin e n = true := by
  unfold zin; rw [Int32.le_iff_toInt_le, nI_toInt hn] at h; rw [Int32.lt_iff_toInt_lt] at h0
  have : (0 : Int32).toInt = 0 := by decide
  exact decide_eq_true (by omega)
theorem zno {e : Int32} {n m : Nat} (hn : n ≤ m) (hm : m < 2 ^ 31) (h : ¬ nI n ≤ e) (h2 : nI m ≤ e) : False := by
  rw [Int32.le_iff_toInt_le, nI_toInt (by omega)] at h; rw [Int32.le_iff_toInt_le, nI_toInt hm] at h2; omega
theorem tOut {l : Launch} {D : va_G} {cy : Nat → ClassId} {z0 : zRg} {g : zSh} {σ : zIn} {n : Nat} (i : Int32) (hn : n < 2 ^ 30) : z_Ct l D cy z0 MX8_isOutside [.int i, .int (nI 0), .int (nI n - nI 1)] g σ (zI (zb (!zin i n)) g σ) := by
  rw [← zout hn]; exact tX8_isOutside i 0 (nI n - 1)
theorem tOutc {l : Launch} {D : va_G} {cy : Nat → ClassId} {z0 : zRg} {g : zSh} {σ : zIn} (n : Nat) (i : Int32) (hn : n < 100000000) : z_Ct l D cy z0 MX8_isOutside [.int i, .int (nI 0), .int (nI n)] g σ (zI (zb (!zin i (n + 1))) g σ) := by
  have e := zoutN (i := i) (n := n + 1) (by omega) (by omega)
  rw [← e]; exact tX8_isOutside i (nI 0) (nI n)
noncomputable def zcnt (P : Nat → Prop) : Nat → Nat
  | 0 => 0
  | n + 1 => zcnt P n + @ite Nat (P n) (Classical.propDecidable _) 1 0
theorem zcnt_y {P : Nat → Prop} {n : Nat} (h : P n) : zcnt P (n + 1) = zcnt P n + 1 := by simp [zcnt, h]
theorem zcnt_n {P : Nat → Prop} {n : Nat} (h : ¬ P n) : zcnt P (n + 1) = zcnt P n := by simp [zcnt, h]
theorem zcnt_le (P : Nat → Prop) : ∀ n, zcnt P n ≤ n
  | 0 => Nat.le_refl 0
  | n + 1 => by
    have h := zcnt_le P n
    by_cases hp : P n
    · rw [zcnt_y hp]; omega
    · rw [zcnt_n hp]; omega
theorem zcnt_mono (P : Nat → Prop) {a b : Nat} (h : a ≤ b) : zcnt P a ≤ zcnt P b := by
  induction b with
  | zero => have : a = 0 := by omega
            subst this; exact Nat.le_refl _
  | succ b ih =>
    by_cases e : a = b + 1
    · subst e; exact Nat.le_refl _
    · have h1 := ih (by omega)
      by_cases hp : P b
      · rw [zcnt_y hp]; omega
      · rw [zcnt_n hp]; omega
theorem zcnt_lt {P : Nat → Prop} {k n : Nat} (h : k < n) (hp : P k) : zcnt P k < zcnt P n := by
  have h1 := zcnt_mono P (show k + 1 ≤ n from h)
  rw [zcnt_y hp] at h1; omega
theorem zcnt_inj {P : Nat → Prop} {j k : Nat} (hj : P j) (hk : P k) (h : zcnt P j = zcnt P k) : j = k := by
  rcases Nat.lt_trichotomy j k with q | q | q
  · have := zcnt_lt q hj; omega
  · exact q
  · have := zcnt_lt q hk; omega
theorem zcnt_sur {P : Nat → Prop} : ∀ {n j : Nat}, j < zcnt P n → ∃ k, k < n ∧ P k ∧ zcnt P k = j
  | 0, j, h => by simp [zcnt] at h
  | n + 1, j, h => by
    by_cases hp : P n
    · rw [zcnt_y hp] at h
      by_cases e : j = zcnt P n
      · exact ⟨n, by omega, hp, e.symm⟩
      · obtain ⟨k, h1, h2, h3⟩ := zcnt_sur (P := P) (n := n) (j := j) (by omega)
        exact ⟨k, by omega, h2, h3⟩
    · rw [zcnt_n hp] at h
      obtain ⟨k, h1, h2, h3⟩ := zcnt_sur (P := P) (n := n) h
      exact ⟨k, by omega, h2, h3⟩
theorem zcnt_congr {P Q : Nat → Prop} : ∀ {n : Nat}, (∀ k, k < n → (P k ↔ Q k)) → zcnt P n = zcnt Q n
  | 0, _ => rfl
  | n + 1, h => by
    have h1 := zcnt_congr (n := n) (fun k hk => h k (by omega))
    by_cases hp : P n
    · rw [zcnt_y hp, zcnt_y ((h n (by omega)).mp hp), h1]
    · rw [zcnt_n hp, zcnt_n (fun q => hp ((h n (by omega)).mpr q)), h1]
/-- what a word may have been: entry k -/
def zP (C : Nat → Int32) (n : Nat) (w : Int32) (k : Nat) : Prop := C k = w ∨ ((∀ j, j < n → C j ≠ w) ∧ (zp w (C k) = 1 ∨ zt w (C k)))
/-- the phrase of entry k stands in the draft D from a place on, of m ideas -/
def zmt (Ph D : Nat → Int32) (k st m : Nat) : Prop := (∀ i, i < m → Ph (4 * k + i) = D (st + i)) ∧ (m < 4 → Ph (4 * k + m) = -1)
def zmtR (Ph D : Nat → Int32) (n st m : Nat) (r : Int32) : Prop := (∃ k, k < n ∧ r = nI k ∧ zmt Ph D k st m ∧ ∀ j, j < k → ¬ zmt Ph D j st m) ∨ (r = -1 ∧ ∀ k, k < n → ¬ zmt Ph D k st m)
def zwd (x : Int32) : Prop := ∃ W, W < 11881376 ∧ x = nI W
def zplen (Ph : Nat → Int32) (k m : Nat) : Prop := m ≤ 4 ∧ (∀ j, j < m → Ph (4 * k + j) ≠ -1) ∧ (m < 4 → Ph (4 * k + m) = -1)
/-- all but the scratch of a search stays -/
def zfo (σ σ' : zIn) : Prop := (∀ i, i ≠ 6 → i ≠ 2 → σ' i = σ i) ∧ ∀ k, k ≠ 6 → σ' 2 k = σ 2 k
theorem zfo_r {σ : zIn} : zfo σ σ := ⟨fun _ _ _ => rfl, fun _ _ => rfl⟩
theorem zfo_t {a b c : zIn} (h1 : zfo a b) (h2 : zfo b c) : zfo a c := ⟨fun i h3 h4 => (h2.1 i h3 h4).trans (h1.1 i h3 h4), fun k h => (h2.2 k h).trans (h1.2 k h)⟩
/-! methods of the JDK: plain by name and descriptor -/
theorem z_metF {l : Launch} {y : MethodName} {ws ws' : List Cond} {rm : Room} {Pc : Array Value → State → Prop} {Qc : Array Value → State → Outcome → State → Prop} {mc ms : Nat} {free : Addr → Prop} {cc : ByteArray} {maxL : Nat} {ret : Option FieldType}
    (hy : plainFor y = true) (hw : ws = Cond.code y cc maxL ret :: ws')
    (body : ∀ p e s m args below meth c s₁, BodyLoose p l y (headSpec ws rm) cc maxL ret e s m args below meth c s₁ → c.maxLocals = maxL → Pc args s →
      W p l e (headSpec ws rm).room s m args below meth c s.heap [] 0 0 (MQ below Qc args s mc ms free) (entryFrame m args maxL)) : Met l y ws rm Pc Qc mc ms free := by
  refine MetFree.of_bodySF (code := cc) (maxLocals := maxL) (ret := ret) hy ?_ ?_
  · intro args s m h hn
    obtain ⟨meth, c, h1, h2, h3, h4, h5, h6, -, -⟩ := Cond.code_spec hn (atoms_spec (ws := ws) h _ (by rw [hw]; exact List.mem_cons_self))
    exact ⟨meth, c, h1, h2, h3, h4, h5, h6⟩
  · intro p e s m args below meth c s₁ B hml hP _
    have hh0 : s₁.heap = s.heap := by rw [B.state]; rfl
    obtain ⟨t, a1, o, b1, b2, b3⟩ := body p e s m args below meth c s₁ B hml hP s₁ hh0 (Stand.of_body B)
    exact ⟨t, o, a1, b1, b2, ⟨b3.1, b3.2⟩⟩
theorem z_ofF {l : Launch} {D : va_G} {cy : Nat → ClassId} {z0 : zRg} {M : zM} {av : List Value} {g : zSh} {σ : zIn} {Post : Option Value → zSh → zIn → Prop} (hpn : plainFor M.1 = true) (hav : ∀ v ∈ av, v.category = 1) (hn : av.length ≤ M.2.2.1)
    (h : ∀ (p : Program) (e : Env) (s : State) (m : MethodId) (args : Array Value) (below : List Frame) (meth : Method) (c : Code), z_cx p s m args meth c M.1.cls M.2.1 M.2.2.1 M.2.2.2.1 M.1.name D cy z0 →
      z_V p l e (zRm M) s m args below meth c M.2.2.1 D cy z0 0 0 (zQm M below D cy z0 Post args s) 0 (av.map some ++ List.replicate (M.2.2.1 - av.length) none) [] g σ) : z_Ct l D cy z0 M av g σ Post := by
  refine z_metF (cc := M.2.1) (maxL := M.2.2.1) (ret := M.2.2.2.1) hpn rfl ?_
  intro p e s m args below meth c s₁ B hml hv
  obtain ⟨rfl, hz, hP, hD, hK, hN⟩ := hv
  have hts := atoms_spec (ws := .code M.1 M.2.1 M.2.2.1 M.2.2.2.1 :: lw_good) B.pre
  have hown : s.vm.findClass M.1.cls = some m.cls := findClass_of_methodNamed B.named
  have hin : meth.name = M.1.name := (name_of_methodNamed B.named B.method).1
  have hl0 := lv_entry av (n := M.2.2.1) (by rw [z_sl_len av hav]; exact hn)
  rw [lg_entry_eq]
  generalize (lg_sl av ++ List.replicate (M.2.2.1 - (lg_sl av).length) Slot.unset).toArray = ls at hl0 ⊢
  refine h p e s m av.toArray below meth c ⟨B.exec, B.bytes, hml, hown, fun w hw => hts w (List.mem_cons_of_mem _ hw), hN, hK, hz, B.returns, hin, B.notSynchronized⟩ s.heap [] ls hP hD va_S.rf ⟨⟨hl0.1, hl0.2.1, fun q hq => by cases hq⟩, fun i v hi => ?_, fun i v hi => ?_⟩
  · have hi' : av[i]? = some v := by
      by_cases hlt : i < av.length
      · rw [List.getElem?_append_left (by simpa using hlt), List.getElem?_map] at hi
        cases hq : av[i]? with
        | none => rw [hq] at hi; cases hi
        | some w => rw [hq] at hi; cases hi; rfl
      · rw [List.getElem?_append_right (by simpa using Nat.not_lt.mp hlt)] at hi
        have := List.mem_of_getElem? hi
        simp at this
    have := hl0.2.2 (0 + i, v) (z_lv_args av 0 hav i v hi')
    simpa using this
  · have hi' : some v ∈ av.map some ++ List.replicate (M.2.2.1 - av.length) (none : Option Value) := List.mem_of_getElem? hi
    rcases List.mem_append.mp hi' with h1 | h1
    · obtain ⟨w, hw, e⟩ := List.mem_map.mp h1
      cases e; exact Or.inl (hav v hw)
    · simp at h1
