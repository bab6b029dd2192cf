/-! THE PLAIN MACHINE: one world of cells of a fixed shape, whose numbers alone change. A memory is a function from a cell's number and a place to an int; which cell a reference names never changes once both objects are made. -/
abbrev MM : Type := Nat → Nat → Int32
/-- the memory with one cell's contents changed -/
def sC (M : MM) (c : Nat) (f : Nat → Int32) : MM := fun d => if d = c then f else M d
theorem sC_s (M : MM) (c : Nat) (f : Nat → Int32) : sC M c f c = f := by simp [sC]
theorem sC_n (M : MM) {c d : Nat} (f : Nat → Int32) (h : d ≠ c) : sC M c f d = M d := by simp [sC, h]
abbrev classes : List vw_C := [(RX0, TX0, 4), (RX1, TX1, 2), (RX2, TX2, 3), (RX3, TX3, 6), (RX4, TX4, 3), (RX5, TX5, 5), (RX6, TX6, 4), (RX7, TX7, 2), (RX8, TX8, 5), (RX9, TX9, 8), (RX10, TX10, 14), (RX11, TX11, 32)]
/-- how many fields a class has; which of them are references -/
def nfL : List Nat := [4, 2, 3, 6, 3, 5, 4, 2, 5, 8, 14, 32]
def rfL : List (List Nat) := [[0, 1, 2], [0, 1], [0, 1, 2], [0, 1, 2, 3, 4], [0], [0], [0, 1, 2], [0, 1], [0, 1, 2], [0, 1, 2, 3], [0, 1, 2, 3, 4, 5, 6, 7, 8, 9, 10, 11], [3, 4, 6, 7, 15, 16, 18, 21, 22, 23, 25, 27, 28, 30, 31]]
/-- of the cells by their numbers: (0, class), (1, length) ints, (2, length) booleans, (3, length) States -/
def shL : List (Nat × Nat) := [(0, 10), (0, 9), (1, 8), (1, 8), (1, 8), (1, 12), (0, 9), (1, 8), (1, 8), (1, 8), (1, 12), (0, 5), (1, 240), (0, 8), (1, 8), (1, 8), (1, 8), (0, 8), (1, 8), (1, 8), (1, 8), (0, 4), (3, 16), (0, 8), (1, 8), (1, 8), (1, 8), (0, 8), (1, 8), (1, 8), (1, 8), (0, 8), (1, 8), (1, 8), (1, 8), (0, 8), (1, 8), (1, 8), (1, 8), (0, 8), (1, 8), (1, 8), (1, 8), (0, 8), (1, 8), (1, 8), (1, 8), (0, 8), (1, 8), (1, 8), (1, 8), (0, 8), (1, 8), (1, 8), (1, 8), (0, 8), (1, 8), (1, 8), (1, 8), (0, 8), (1, 8), (1, 8), (1, 8), (0, 8), (1, 8), (1, 8), (1, 8), (0, 8), (1, 8), (1, 8), (1, 8), (0, 8), (1, 8), (1, 8), (1, 8), (0, 8), (1, 8), (1, 8), (1, 8), (0, 8), (1, 8), (1, 8), (1, 8), (0, 8), (1, 8), (1, 8), (1, 8), (0, 2), (3, 2), (1, 2), (2, 2), (0, 8), (1, 8), (1, 8), (1, 8), (0, 8), (1, 8), (1, 8), (1, 8), (0, 1), (1, 5), (1, 48), (0, 7), (1, 2560), (1, 9), (0, 6), (1, 6), (1, 6), (1, 9), (0, 3), (1, 10), (1, 10), (2, 10), (2, 256), (1, 256), (0, 0), (1, 15), (1, 15), (2, 15), (0, 11), (1, 8), (1, 12), (1, 26), (1, 240), (1, 24), (1, 12), (1, 416), (1, 26), (1, 2560), (1, 12), (1, 30), (1, 8), (1, 45), (1, 54), (2, 2)]
def nC : Nat := 135
def shp (c : Nat) : Nat × Nat := shL.getD c (9, 0)
/-- the cell that a reference field names -/
def r10L : List Nat := [1, 6, 11, 13, 17, 21, 87, 99, 102, 105, 109, 115]
def r11L : List Nat := [0, 0, 0, 120, 121, 0, 122, 123, 0, 0, 0, 0, 0, 0, 0, 124, 125, 0, 126, 0, 0, 127, 128, 129, 0, 130, 0, 131, 132, 0, 133, 134]
def rtc (ci c k : Nat) : Nat := match ci with
  | 10 => r10L.getD k 0
  | 11 => r11L.getD k 0
  | _ => c + 1 + k
/-- the cell that a place of an array of States names -/
def rac (c j : Nat) : Nat := match c with
  | 22 => 23 + 4 * j
  | _ => 91 + 4 * j
def isR (ci k : Nat) : Bool := (rfL.getD ci []).contains k
abbrev gK : Type := va_G × (Nat → Nat) × ClassId × ClassId × ClassId
/-- a value of the plain machine as the machine has it -/
def rv (κ : gK) (v : Value) : Value := match v with
  | .ref c => .ref (κ.2.1 c)
  | v => v
def fldV (κ : gK) (M : MM) (ci c k : Nat) : Value := bif isR ci k then .ref (κ.2.1 (rtc ci c k)) else .int (M c k)
def cont (κ : gK) (M : MM) (c : Nat) : va_E := match shp c with
  | (0, ci) => .inr (ci, (List.range (nfL.getD ci 0)).map (fldV κ M ci c))
  | (1, n) => .inl (κ.2.2.1, n, .inl (M c))
  | (2, n) => .inl (κ.2.2.2.1, n, .inl (M c))
  | (_, n) => .inl (κ.2.2.2.2, n, .inr (.inr (.inr (.inr (fun j => some (κ.2.1 (rac c j)))))))
def wrld (κ : gK) (M : MM) : va_W := (List.range nC).map (fun c => (κ.2.1 c, cont κ M c))
theorem wrld_at (κ : gK) (M : MM) {c : Nat} (h : c < nC) : (wrld κ M)[c]? = some (κ.2.1 c, cont κ M c) := by
  simp [wrld, List.getElem?_map, List.getElem?_range h]
theorem shp_lt {c : Nat} {q : Nat × Nat} (h : shp c = q) (hq : q ≠ (9, 0)) : c < nC := by
  rcases Nat.lt_or_ge c nC with h1 | h1
  · exact h1
  · exact absurd (by rw [← h]; unfold shp; rw [List.getD_eq_getElem?_getD, List.getElem?_eq_none (Nat.le_trans (by decide +kernel) h1)]; rfl) hq
theorem cont_eq (κ : gK) {M M' : MM} {c : Nat} (h : M' c = M c) : cont κ M' c = cont κ M c := by
  unfold cont
  have h2 : ∀ ci, fldV κ M' ci c = fldV κ M ci c := fun ci => by funext k; simp [fldV, h]
  simp only [h, h2]
theorem wrld_set (κ : gK) {M M' : MM} {c : Nat} (h : ∀ d, d ≠ c → M' d = M d) {x : Nat × va_E} (hx : x = (κ.2.1 c, cont κ M' c)) : (wrld κ M).set c x = wrld κ M' := by
  subst hx
  apply List.ext_getElem?
  intro d
  rcases Nat.lt_or_ge d nC with hd | hd
  · rw [wrld_at κ M' hd]
    by_cases e : d = c
    · subst e
      rw [List.getElem?_set_self (by simp [wrld]; exact hd)]
    · rw [List.getElem?_set_ne (Ne.symm e), wrld_at κ M hd, cont_eq κ (h d e)]
  · rw [List.getElem?_eq_none (by simp [wrld]; exact hd), List.getElem?_eq_none (by simp [wrld]; exact hd)]
theorem cont_o (κ : gK) (M : MM) {c ci : Nat} (h : shp c = (0, ci)) : cont κ M c = .inr (ci, (List.range (nfL.getD ci 0)).map (fldV κ M ci c)) := by
  unfold cont; rw [h]; rfl
theorem cont_i (κ : gK) (M : MM) {c n : Nat} (h : shp c = (1, n)) : cont κ M c = .inl (κ.2.2.1, n, .inl (M c)) := by
  unfold cont; rw [h]; rfl
theorem cont_z (κ : gK) (M : MM) {c n : Nat} (h : shp c = (2, n)) : cont κ M c = .inl (κ.2.2.2.1, n, .inl (M c)) := by
  unfold cont; rw [h]; rfl
theorem cont_q (κ : gK) (M : MM) {c n : Nat} (h : shp c = (3, n)) : cont κ M c = .inl (κ.2.2.2.2, n, .inr (.inr (.inr (.inr (fun j => some (κ.2.1 (rac c j))))))) := by
  unfold cont; rw [h]; rfl
theorem cls_at {ci : Nat} {q : vw_C} (h : classes[ci]? = some q) : nfL.getD ci 0 = q.2.2 := by
  have : (classes.map (fun q => q.2.2))[ci]? = some q.2.2 := by rw [List.getElem?_map, h]; rfl
  have e : classes.map (fun q => q.2.2) = nfL := rfl
  rw [e] at this
  simp [List.getD, this]
/-- the tables' words that a method may lean on, all of them in every method -/
def tbG : List Cond := lw_tbl.filter goodWord
theorem tbG_in {w : Cond} (h : w ∈ lw_tbl) (g : goodWord w = true) : w ∈ tbG := List.mem_filter.mpr ⟨h, g⟩
theorem tbG_t {w : Cond} (h : w ∈ tables_1) (g : goodWord w = true) : w ∈ tbG := tbG_in (List.mem_append_right _ h) g
theorem tbG_s {q : MethodName × Nat} (h : q ∈ lw_privs) : Cond.selects q.1.cls q.1 q.1 ∈ tbG := tbG_in (List.mem_append_left _ (List.mem_map.mpr ⟨q, h, rfl⟩)) rfl
theorem tbG_good : ∀ w ∈ tbG, (w.onTables && w.keeps) = true ∨ ∃ ty, w = .arrayClass ty := fun w h => good_of_word (List.mem_filter.mp h).2
/-- a method: its name, its bytes, its locals, what it returns, its height over the leaves -/
abbrev gM : Type := MethodName × ByteArray × Nat × Option FieldType × Nat
def rmL (k : Nat) : Room := { frames := k, cells := 0, slots := 0, locals := 30 * k }
def wsM (μ : gM) : List Cond := Cond.code μ.1 μ.2.1 μ.2.2.1 μ.2.2.2.1 :: tbG
def kA (κ : gK) : Nat → Prop := fun q => ∃ c, c < nC ∧ q = κ.2.1 c
def tysK (κ : gK) : List (ClassId × FieldType) := [(κ.2.2.1, .int), (κ.2.2.2.1, .boolean), (κ.2.2.2.2, .object RX8)]
/-- what the tables say, at a state and its heap -/
def okK (κ : gK) (U : State) (H : Heap) : Prop := va_K κ.1 classes (tysK κ) U ∧ va_Z "GiltCockcrow$Shadows" "KINDS" "[I" (.ref (κ.2.1 999)) (kA κ) U H ∧ va_T .int (κ.2.1 999) 3 (fun j => .int ([0, 1, 3].getD j 0)) (kA κ) U H ∧ (∀ i j, i < nC → j < nC → κ.2.1 i = κ.2.1 j → i = j)
theorem okK.moved {κ : gK} {u U : State} {H : Heap} (hvm : u.vm.Alike U.vm) (h : okK κ u H) : okK κ U H := ⟨va_K.moved hvm h.1, va_Z.moved hvm h.2.1, va_T.moved hvm h.2.2.1, h.2.2.2⟩
theorem okK.kept {κ : gK} {U : State} {H H1 : Heap} (h : okK κ U H) (hq : ∀ a : Nat, a < H.size → ¬ kA κ a → H1[a]? = H[a]?) : okK κ U H1 := ⟨h.1, h.2.1.kept hq, h.2.2.1.kept hq, h.2.2.2⟩
theorem okK.D {κ : gK} {U : State} {H : Heap} (h : okK κ U H) (M : MM) : va_D (kA κ) (wrld κ M) := by
  refine ⟨fun i j p q hi hj hpq => ?_, fun k q hk => ?_⟩
  · have hil : i < nC := by have := (List.getElem?_eq_some_iff.mp hi).1; simpa [wrld] using this
    have hjl : j < nC := by have := (List.getElem?_eq_some_iff.mp hj).1; simpa [wrld] using this
    rw [wrld_at κ M hil] at hi
    rw [wrld_at κ M hjl] at hj
    cases hi; cases hj
    exact h.2.2.2 i j hil hjl hpq
  · have hkl : k < nC := by have := (List.getElem?_eq_some_iff.mp hk).1; simpa [wrld] using this
    rw [wrld_at κ M hkl] at hk
    cases hk
    exact ⟨k, hkl, rfl⟩
def wP (κ : gK) (M : MM) (H : Heap) : Prop := va_P κ.1 classes (wrld κ M) H
def Bw (κ : gK) (M : MM) (t : State) : Prop := wP κ M t.heap
/-- the end of a method: its answer and the memory behind it -/
def FQ (κ : gK) (μ : gM) (Q : Int32 → MM → Prop) : Array Value → State → Outcome → State → Prop := match μ.2.2.2.1 with
  | none => va_Qv (Q 0) (Bw κ) (kA κ)
  | some _ => va_Qi Q (Bw κ) (kA κ)
/-- THE CONTRACT: called with these values over this memory, the method returns, and Q of its answer and the new memory -/
def Cl (κ : gK) (μ : gM) (as : List Value) (M : MM) (Q : Int32 → MM → Prop) : Prop :=
  ∀ l : Launch, Met l μ.1 (wsM μ) (rmL μ.2.2.2.2) (va_Pc (as.map (rv κ)) (fun U => wP κ M U.heap ∧ okK κ U U.heap)) (FQ κ μ Q) 0 0 (kA κ)
def gB (κ : gK) (μ : gM) (p : Program) (s : State) (m : MethodId) (args : Array Value) (meth : Method) (c : Code) : Prop :=
  p.tables.exec = Jvm.exec ∧ c.code = μ.2.1 ∧ meth.sig.returnType = μ.2.2.2.1 ∧ c.maxLocals = μ.2.2.1 ∧ s.vm.findClass μ.1.cls = some m.cls ∧ (∀ w ∈ tbG, w.before args s = true) ∧ meth.locks = false ∧ okK κ s s.heap
/-- the locals: at each place the value listed there; null: not known -/
def LR (κ : gK) (ls : Array Slot) (n : Nat) (L : List Value) : Prop := ls.size = n ∧ lv_wf ls ∧ ∀ (i : Nat) (v : Value), L[i]? = some v → v ≠ .null → ls[i]? = some (.val (rv κ v))
/-- FROM HERE: at this place of the method, with these locals, this stack, this memory, it comes to its end with Q -/
def G (κ : gK) (μ : gM) (pc : Nat) (L S : List Value) (M : MM) (Q : Int32 → MM → Prop) : Prop :=
  ∀ (p : Program) (l : Launch) (e : Env) (s : State) (m : MethodId) (args : Array Value) (below : List Frame) (meth : Method) (c : Code) (H : Heap) (locs : List Loc) (ls : Array Slot), gB κ μ p s m args meth c → wP κ M H → va_S (kA κ) s.heap H locs → LR κ ls μ.2.2.1 L →
    W p l e (rmL μ.2.2.2.2) s m args below meth c H locs 0 0 (MQ below (FQ κ μ Q) args s 0 0 (kA κ)) (F0 m pc ls (S.map (rv κ)))
