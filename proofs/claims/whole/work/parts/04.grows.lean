section GRows
variable {κ : gK} {μ : gM} {pc : Nat} {L S : List Value} {M : MM} {Q : Int32 → MM → Prop}
/-- the values that are listed, with their places -/
def asL (κ : gK) (L : List Value) : List (Nat × Value) := L.zipIdx.filterMap (fun q => if q.1 = .null then none else some (q.2, rv κ q.1))
theorem asL_mem {κ : gK} {L : List Value} {i : Nat} {w : Value} : (i, w) ∈ asL κ L ↔ ∃ v, L[i]? = some v ∧ v ≠ .null ∧ rv κ v = w := by
  unfold asL
  rw [List.mem_filterMap]
  constructor
  · rintro ⟨⟨v, j⟩, hm, hq⟩
    have h1 := List.mem_zipIdx_iff_getElem?.mp hm
    by_cases hn : v = .null
    · simp [hn] at hq
    · simp [hn] at hq
      obtain ⟨rfl, rfl⟩ := hq
      exact ⟨v, h1, hn, rfl⟩
  · rintro ⟨v, h1, h2, rfl⟩
    exact ⟨(v, i), List.mem_zipIdx_iff_getElem?.mpr h1, by simp [h2]⟩
theorem LR.has {κ : gK} {ls : Array Slot} {n : Nat} {L : List Value} (h : LR κ ls n L) : lv_has ls n (asL κ L) := by
  refine ⟨h.1, h.2.1, fun q hq => ?_⟩
  obtain ⟨i, w⟩ := q
  obtain ⟨v, h1, h2, rfl⟩ := asL_mem.mp hq
  exact h.2.2 i v h1 h2
/-- no long value begins at the place ahead -/
def okst (L : List Value) (i : Nat) : Bool := match i with
  | 0 => true
  | k + 1 => match L[k]? with
    | some (.long _) => false
    | some (.double _) => false
    | _ => true
theorem rv_cat (κ : gK) (v : Value) : (rv κ v).category = v.category := by cases v <;> rfl
theorem okst_spec {L : List Value} {i j : Nat} {v : Value} (h : okst L i = true) (hj : L[j]? = some v) (e : j + 1 = i) : v.category = 1 := by
  subst e
  simp only [okst, hj] at h
  cases v <;> simp_all [Value.category]
theorem LR.set1 {κ : gK} {ls : Array Slot} {n i : Nat} {L : List Value} {w : Value} (hok : okst L i = true) (h : lv_has ls n ((i, rv κ w) :: (asL κ L).filter (fun q => !(q.1 == i) && !(q.1 + 1 == i && q.2.category == 2)))) : LR κ ls n (L.set i w) := by
  refine ⟨h.1, h.2.1, fun j v hj hv => ?_⟩
  by_cases e : j = i
  · subst e
    rw [List.getElem?_set] at hj
    simp only [if_true] at hj
    split at hj
    · cases hj
      exact h.2.2 (j, rv κ w) List.mem_cons_self
    · cases hj
  · rw [List.getElem?_set_ne (Ne.symm e)] at hj
    refine h.2.2 (j, rv κ v) (List.mem_cons_of_mem _ (List.mem_filter.mpr ⟨asL_mem.mpr ⟨v, hj, hv, rfl⟩, ?_⟩))
    by_cases e2 : j + 1 = i
    · have := okst_spec hok hj e2
      simp [e, rv_cat, this]
    · simp [e, e2]
theorem LR.set2 {κ : gK} {ls : Array Slot} {n i : Nat} {L : List Value} {x : Int64} (hok : okst L i = true) (h : lv_has ls n ((i, Value.long x) :: (asL κ L).filter (fun q => !(q.1 == i) && (!(q.1 == i + 1) && !(q.1 + 1 == i && q.2.category == 2))))) : LR κ ls n ((L.set i (.long x)).set (i + 1) .null) := by
  refine ⟨h.1, h.2.1, fun j v hj hv => ?_⟩
  by_cases e1 : j = i + 1
  · subst e1
    rw [List.getElem?_set] at hj
    simp only [if_true] at hj
    split at hj
    · cases hj; exact absurd rfl hv
    · cases hj
  · rw [List.getElem?_set_ne (Ne.symm e1)] at hj
    by_cases e : j = i
    · subst e
      rw [List.getElem?_set] at hj
      simp only [if_true] at hj
      split at hj
      · cases hj
        exact h.2.2 (j, .long x) List.mem_cons_self
      · cases hj
    · rw [List.getElem?_set_ne (Ne.symm e)] at hj
      refine h.2.2 (j, rv κ v) (List.mem_cons_of_mem _ (List.mem_filter.mpr ⟨asL_mem.mpr ⟨v, hj, hv, rfl⟩, ?_⟩))
      by_cases e2 : j + 1 = i
      · have := okst_spec hok hj e2
        simp [e, e1, rv_cat, this]
      · simp [e, e1, e2]
/-- forget some locals -/
def lsub : List Value → List Value → Bool
  | [], _ => true
  | .null :: a, [] => lsub a []
  | _ :: _, [] => false
  | .null :: a, _ :: b => lsub a b
  | x :: a, y :: b => decide (x = y) && lsub a b
theorem lsub_at : ∀ {L' L : List Value}, (∀ (i : Nat) (v : Value), L'[i]? = some v → v ≠ .null → L[i]? = some v) → ∀ {κ : gK} {ls : Array Slot} {n : Nat}, LR κ ls n L → LR κ ls n L' := fun hs _ _ _ h => ⟨h.1, h.2.1, fun i v h1 h2 => h.2.2 i v (hs i v h1 h2) h2⟩
theorem g_sub (L' : List Value) (hs : ∀ (i : Nat) (v : Value), L'[i]? = some v → v ≠ .null → L[i]? = some v) (k : G κ μ pc L' S M Q) : G κ μ pc L S M Q := fun p l e s m args below meth c H locs ls hB hP hS hL => k p l e s m args below meth c H locs ls hB hP hS (lsub_at hs hL)
theorem sub_c {a b : List Value} {x y : Value} (h : y = .null ∨ y = x) (t : ∀ (i : Nat) (v : Value), b[i]? = some v → v ≠ .null → a[i]? = some v) : ∀ (i : Nat) (v : Value), (y :: b)[i]? = some v → v ≠ .null → (x :: a)[i]? = some v := by
  intro i v h1 h2
  cases i with
  | zero =>
    simp at h1 ⊢
    subst h1
    rcases h with h | h
    · exact absurd h h2
    · exact h.symm
  | succ i => simpa using t i v (by simpa using h1) h2
theorem sub_n {a : List Value} : ∀ (i : Nat) (v : Value), ([] : List Value)[i]? = some v → v ≠ .null → a[i]? = some v := fun i v h => by simp at h
theorem g_q {Q' : Int32 → MM → Prop} (k : G κ μ pc L S M Q') (h : Q' = Q) : G κ μ pc L S M Q := h ▸ k
theorem g_iconst {n : Int} {v : Int32} (hd : decode μ.2.1 pc = .ok (.iconst n, 1)) (hv : Int32.ofInt n = v) (k : G κ μ (pc + 1) L (.int v :: S) M Q) : G κ μ pc L (S) M Q := fun p l e s m args below meth c H locs ls hB hP hS hL => lv_iconst hB.1 hB.2.1 hd hv (k p l e s m args below meth c H locs ls hB hP hS hL)
theorem g_bipush {n : Int} {v : Int32} (hd : decode μ.2.1 pc = .ok (.bipush n, 2)) (hv : (Int8.ofInt n).toInt32 = v) (k : G κ μ (pc + 2) L (.int v :: S) M Q) : G κ μ pc L (S) M Q := fun p l e s m args below meth c H locs ls hB hP hS hL => lv_bipush hB.1 hB.2.1 hd hv (k p l e s m args below meth c H locs ls hB hP hS hL)
theorem g_sipush {n : Int} {v : Int32} (hd : decode μ.2.1 pc = .ok (.sipush n, 3)) (hv : (Int16.ofInt n).toInt32 = v) (k : G κ μ (pc + 3) L (.int v :: S) M Q) : G κ μ pc L (S) M Q := fun p l e s m args below meth c H locs ls hB hP hS hL => lv_sipush hB.1 hB.2.1 hd hv (k p l e s m args below meth c H locs ls hB hP hS hL)
theorem g_lconst {n : Fin 2} {v : Int64} (hd : decode μ.2.1 pc = .ok (.lconst n, 1)) (hv : Int64.ofNat (n : Nat) = v) (k : G κ μ (pc + 1) L (.long v :: S) M Q) : G κ μ pc L (S) M Q := fun p l e s m args below meth c H locs ls hB hP hS hL => lv_lconst hB.1 hB.2.1 hd hv (k p l e s m args below meth c H locs ls hB hP hS hL)
theorem g_iload_n {k0 : Fin 4} {i : Nat} {x : Int32} (hd : decode μ.2.1 pc = .ok (.iload_n k0, 1)) (hi : (k0 : Nat) = i) (hl : L[i]? = some (.int x)) (k : G κ μ (pc + 1) L (.int x :: S) M Q) : G κ μ pc L (S) M Q := fun p l e s m args below meth c H locs ls hB hP hS hL => lv_iload_n hB.1 hB.2.1 hd hi (hL.2.2 i _ hl (by simp)) (k p l e s m args below meth c H locs ls hB hP hS hL)
theorem g_iload {i : Nat} {x : Int32} (hd : decode μ.2.1 pc = .ok (.iload i, 2)) (hl : L[i]? = some (.int x)) (k : G κ μ (pc + 2) L (.int x :: S) M Q) : G κ μ pc L (S) M Q := fun p l e s m args below meth c H locs ls hB hP hS hL => lv_iload hB.1 hB.2.1 hd (hL.2.2 i _ hl (by simp)) (k p l e s m args below meth c H locs ls hB hP hS hL)
theorem g_lload_n {k0 : Fin 4} {i : Nat} {x : Int64} (hd : decode μ.2.1 pc = .ok (.lload_n k0, 1)) (hi : (k0 : Nat) = i) (hl : L[i]? = some (.long x)) (k : G κ μ (pc + 1) L (.long x :: S) M Q) : G κ μ pc L (S) M Q := fun p l e s m args below meth c H locs ls hB hP hS hL => lv_lload_n hB.1 hB.2.1 hd hi (hL.2.2 i _ hl (by simp)) (k p l e s m args below meth c H locs ls hB hP hS hL)
theorem g_lload {i : Nat} {x : Int64} (hd : decode μ.2.1 pc = .ok (.lload i, 2)) (hl : L[i]? = some (.long x)) (k : G κ μ (pc + 2) L (.long x :: S) M Q) : G κ μ pc L (S) M Q := fun p l e s m args below meth c H locs ls hB hP hS hL => lv_lload hB.1 hB.2.1 hd (hL.2.2 i _ hl (by simp)) (k p l e s m args below meth c H locs ls hB hP hS hL)
theorem g_aload_n {k0 : Fin 4} {i : Nat} {x : Nat} (hd : decode μ.2.1 pc = .ok (.aload_n k0, 1)) (hi : (k0 : Nat) = i) (hl : L[i]? = some (.ref x)) (k : G κ μ (pc + 1) L (.ref x :: S) M Q) : G κ μ pc L (S) M Q := fun p l e s m args below meth c H locs ls hB hP hS hL => lv_aload_n hB.1 hB.2.1 hd hi (hL.2.2 i _ hl (by simp)) (k p l e s m args below meth c H locs ls hB hP hS hL)
theorem g_aload {i : Nat} {x : Nat} (hd : decode μ.2.1 pc = .ok (.aload i, 2)) (hl : L[i]? = some (.ref x)) (k : G κ μ (pc + 2) L (.ref x :: S) M Q) : G κ μ pc L (S) M Q := fun p l e s m args below meth c H locs ls hB hP hS hL => lv_aload hB.1 hB.2.1 hd (hL.2.2 i _ hl (by simp)) (k p l e s m args below meth c H locs ls hB hP hS hL)
theorem g_istore_n {k0 : Fin 4} {i : Nat} {x : Int32} (hd : decode μ.2.1 pc = .ok (.istore_n k0, 1)) (hi : (k0 : Nat) = i) (hn : i < μ.2.2.1) (ho : okst L i = true) {L' : List Value} (hl : (L.set i (.int x)) = L') (k : G κ μ (pc + 1) L' S M Q) : G κ μ pc L (.int x :: S) M Q := fun p l e s m args below meth c H locs ls hB hP hS hL => lv_istore_n hB.1 hB.2.1 hd hi hL.has hn rfl (fun ls h => k p l e s m args below meth c H locs ls hB hP hS (hl ▸ LR.set1 ho h))
theorem g_istore {i : Nat} {x : Int32} (hd : decode μ.2.1 pc = .ok (.istore i, 2)) (hn : i < μ.2.2.1) (ho : okst L i = true) {L' : List Value} (hl : (L.set i (.int x)) = L') (k : G κ μ (pc + 2) L' S M Q) : G κ μ pc L (.int x :: S) M Q := fun p l e s m args below meth c H locs ls hB hP hS hL => lv_istore hB.1 hB.2.1 hd hL.has hn rfl (fun ls h => k p l e s m args below meth c H locs ls hB hP hS (hl ▸ LR.set1 ho h))
theorem g_astore_n {k0 : Fin 4} {i : Nat} {x : Nat} (hd : decode μ.2.1 pc = .ok (.astore_n k0, 1)) (hi : (k0 : Nat) = i) (hn : i < μ.2.2.1) (ho : okst L i = true) {L' : List Value} (hl : (L.set i (.ref x)) = L') (k : G κ μ (pc + 1) L' S M Q) : G κ μ pc L (.ref x :: S) M Q := fun p l e s m args below meth c H locs ls hB hP hS hL => lv_astore_n hB.1 hB.2.1 hd hi hL.has hn rfl (fun ls h => k p l e s m args below meth c H locs ls hB hP hS (hl ▸ LR.set1 ho h))
theorem g_astore {i : Nat} {x : Nat} (hd : decode μ.2.1 pc = .ok (.astore i, 2)) (hn : i < μ.2.2.1) (ho : okst L i = true) {L' : List Value} (hl : (L.set i (.ref x)) = L') (k : G κ μ (pc + 2) L' S M Q) : G κ μ pc L (.ref x :: S) M Q := fun p l e s m args below meth c H locs ls hB hP hS hL => lv_astore hB.1 hB.2.1 hd hL.has hn rfl (fun ls h => k p l e s m args below meth c H locs ls hB hP hS (hl ▸ LR.set1 ho h))
theorem g_lstore_n {k0 : Fin 4} {i : Nat} {x : Int64} (hd : decode μ.2.1 pc = .ok (.lstore_n k0, 1)) (hi : (k0 : Nat) = i) (hn : i + 1 < μ.2.2.1) (ho : okst L i = true) {L' : List Value} (hl : ((L.set i (.long x)).set (i + 1) .null) = L') (k : G κ μ (pc + 1) L' S M Q) : G κ μ pc L (.long x :: S) M Q := fun p l e s m args below meth c H locs ls hB hP hS hL => lv_lstore_n hB.1 hB.2.1 hd hi hL.has hn rfl (fun ls h => k p l e s m args below meth c H locs ls hB hP hS (hl ▸ LR.set2 ho h))
theorem g_lstore {i : Nat} {x : Int64} (hd : decode μ.2.1 pc = .ok (.lstore i, 2)) (hn : i + 1 < μ.2.2.1) (ho : okst L i = true) {L' : List Value} (hl : ((L.set i (.long x)).set (i + 1) .null) = L') (k : G κ μ (pc + 2) L' S M Q) : G κ μ pc L (.long x :: S) M Q := fun p l e s m args below meth c H locs ls hB hP hS hL => lv_lstore hB.1 hB.2.1 hd hL.has hn rfl (fun ls h => k p l e s m args below meth c H locs ls hB hP hS (hl ▸ LR.set2 ho h))
theorem g_iinc {i : Nat} {n : Int} {x v : Int32} (hd : decode μ.2.1 pc = .ok (.iinc i n, 3)) (hx : L[i]? = some (.int x)) (hv : x + Int32.ofInt n = v) (hn : i < μ.2.2.1) (ho : okst L i = true) {L' : List Value} (hl : L.set i (.int v) = L') (k : G κ μ (pc + 3) L' S M Q) : G κ μ pc L S M Q := by
  intro p l e s m args below meth c H locs ls hB hP hS hL
  obtain ⟨j, hj⟩ := List.getElem?_of_mem (asL_mem.mpr ⟨_, hx, by simp, rfl⟩ : (i, rv κ (.int x)) ∈ asL κ L)
  exact lv_iinc hB.1 hB.2.1 hd hL.has (k := j) hj hv hn rfl (fun ls h => k p l e s m args below meth c H locs ls hB hP hS (hl ▸ LR.set1 (w := .int v) ho h))
theorem g_iadd {x y : Int32} (hd : decode μ.2.1 pc = .ok (.iadd, 1))  (k : G κ μ (pc + 1) L (.int (x + y) :: S) M Q) : G κ μ pc L (.int y :: .int x :: S) M Q := fun p l e s m args below meth c H locs ls hB hP hS hL => lv_iadd hB.1 hB.2.1 hd  (k p l e s m args below meth c H locs ls hB hP hS hL)
theorem g_isub {x y : Int32} (hd : decode μ.2.1 pc = .ok (.isub, 1))  (k : G κ μ (pc + 1) L (.int (x - y) :: S) M Q) : G κ μ pc L (.int y :: .int x :: S) M Q := fun p l e s m args below meth c H locs ls hB hP hS hL => lv_isub hB.1 hB.2.1 hd  (k p l e s m args below meth c H locs ls hB hP hS hL)
theorem g_imul {x y : Int32} (hd : decode μ.2.1 pc = .ok (.imul, 1))  (k : G κ μ (pc + 1) L (.int (x * y) :: S) M Q) : G κ μ pc L (.int y :: .int x :: S) M Q := fun p l e s m args below meth c H locs ls hB hP hS hL => lv_imul hB.1 hB.2.1 hd  (k p l e s m args below meth c H locs ls hB hP hS hL)
theorem g_iand {x y : Int32} (hd : decode μ.2.1 pc = .ok (.iand, 1))  (k : G κ μ (pc + 1) L (.int (x &&& y) :: S) M Q) : G κ μ pc L (.int y :: .int x :: S) M Q := fun p l e s m args below meth c H locs ls hB hP hS hL => lv_iand hB.1 hB.2.1 hd  (k p l e s m args below meth c H locs ls hB hP hS hL)
theorem g_ior {x y : Int32} (hd : decode μ.2.1 pc = .ok (.ior, 1))  (k : G κ μ (pc + 1) L (.int (x ||| y) :: S) M Q) : G κ μ pc L (.int y :: .int x :: S) M Q := fun p l e s m args below meth c H locs ls hB hP hS hL => lv_ior hB.1 hB.2.1 hd  (k p l e s m args below meth c H locs ls hB hP hS hL)
theorem g_ixor {x y : Int32} (hd : decode μ.2.1 pc = .ok (.ixor, 1))  (k : G κ μ (pc + 1) L (.int (x ^^^ y) :: S) M Q) : G κ μ pc L (.int y :: .int x :: S) M Q := fun p l e s m args below meth c H locs ls hB hP hS hL => lv_ixor hB.1 hB.2.1 hd  (k p l e s m args below meth c H locs ls hB hP hS hL)
theorem g_ishl {x y : Int32} (hd : decode μ.2.1 pc = .ok (.ishl, 1))  (k : G κ μ (pc + 1) L (.int (x <<< (y &&& 31)) :: S) M Q) : G κ μ pc L (.int y :: .int x :: S) M Q := fun p l e s m args below meth c H locs ls hB hP hS hL => lv_ishl hB.1 hB.2.1 hd  (k p l e s m args below meth c H locs ls hB hP hS hL)
theorem g_ishr {x y : Int32} (hd : decode μ.2.1 pc = .ok (.ishr, 1))  (k : G κ μ (pc + 1) L (.int (x >>> (y &&& 31)) :: S) M Q) : G κ μ pc L (.int y :: .int x :: S) M Q := fun p l e s m args below meth c H locs ls hB hP hS hL => lv_ishr hB.1 hB.2.1 hd  (k p l e s m args below meth c H locs ls hB hP hS hL)
theorem g_idiv {x y : Int32} (hd : decode μ.2.1 pc = .ok (.idiv, 1)) (hne : ¬ y = 0) (k : G κ μ (pc + 1) L (.int (x / y) :: S) M Q) : G κ μ pc L (.int y :: .int x :: S) M Q := fun p l e s m args below meth c H locs ls hB hP hS hL => lv_idiv hB.1 hB.2.1 hd hne (k p l e s m args below meth c H locs ls hB hP hS hL)
theorem g_irem {x y : Int32} (hd : decode μ.2.1 pc = .ok (.irem, 1)) (hne : ¬ y = 0) (k : G κ μ (pc + 1) L (.int (x - x / y * y) :: S) M Q) : G κ μ pc L (.int y :: .int x :: S) M Q := fun p l e s m args below meth c H locs ls hB hP hS hL => lv_irem hB.1 hB.2.1 hd hne (k p l e s m args below meth c H locs ls hB hP hS hL)
theorem g_ineg {x : Int32} (hd : decode μ.2.1 pc = .ok (.ineg, 1))  (k : G κ μ (pc + 1) L (.int (-x) :: S) M Q) : G κ μ pc L (.int x :: S) M Q := fun p l e s m args below meth c H locs ls hB hP hS hL => lv_ineg hB.1 hB.2.1 hd  (k p l e s m args below meth c H locs ls hB hP hS hL)
theorem g_iushr {x y : Int32} (hd : decode μ.2.1 pc = .ok (.iushr, 1))  (k : G κ μ (pc + 1) L (.int ((x.toUInt32 >>> (y.toUInt32 &&& Int32.toUInt32 31)).toInt32) :: S) M Q) : G κ μ pc L (.int y :: .int x :: S) M Q := fun p l e s m args below meth c H locs ls hB hP hS hL => lv_iushr hB.1 hB.2.1 hd rfl (k p l e s m args below meth c H locs ls hB hP hS hL)
theorem g_ladd {x y : Int64} (hd : decode μ.2.1 pc = .ok (.ladd, 1))  (k : G κ μ (pc + 1) L (.long (x + y) :: S) M Q) : G κ μ pc L (.long y :: .long x :: S) M Q := fun p l e s m args below meth c H locs ls hB hP hS hL => lv_ladd hB.1 hB.2.1 hd  (k p l e s m args below meth c H locs ls hB hP hS hL)
theorem g_lmul {x y : Int64} (hd : decode μ.2.1 pc = .ok (.lmul, 1))  (k : G κ μ (pc + 1) L (.long (x * y) :: S) M Q) : G κ μ pc L (.long y :: .long x :: S) M Q := fun p l e s m args below meth c H locs ls hB hP hS hL => lv_lmul hB.1 hB.2.1 hd  (k p l e s m args below meth c H locs ls hB hP hS hL)
theorem g_land {x y : Int64} (hd : decode μ.2.1 pc = .ok (.land, 1))  (k : G κ μ (pc + 1) L (.long (x &&& y) :: S) M Q) : G κ μ pc L (.long y :: .long x :: S) M Q := fun p l e s m args below meth c H locs ls hB hP hS hL => lv_land hB.1 hB.2.1 hd  (k p l e s m args below meth c H locs ls hB hP hS hL)
theorem g_ldiv {x y : Int64} (hd : decode μ.2.1 pc = .ok (.ldiv, 1)) (hne : ¬ y = 0) (k : G κ μ (pc + 1) L (.long (x / y) :: S) M Q) : G κ μ pc L (.long y :: .long x :: S) M Q := fun p l e s m args below meth c H locs ls hB hP hS hL => lv_ldiv hB.1 hB.2.1 hd hne (k p l e s m args below meth c H locs ls hB hP hS hL)
theorem g_i2l {x : Int32} (hd : decode μ.2.1 pc = .ok (.i2l, 1))  (k : G κ μ (pc + 1) L (.long x.toInt64 :: S) M Q) : G κ μ pc L (.int x :: S) M Q := fun p l e s m args below meth c H locs ls hB hP hS hL => lv_i2l hB.1 hB.2.1 hd rfl (k p l e s m args below meth c H locs ls hB hP hS hL)
theorem g_l2i {x : Int64} (hd : decode μ.2.1 pc = .ok (.l2i, 1))  (k : G κ μ (pc + 1) L (.int x.toInt32 :: S) M Q) : G κ μ pc L (.long x :: S) M Q := fun p l e s m args below meth c H locs ls hB hP hS hL => lv_l2i hB.1 hB.2.1 hd rfl (k p l e s m args below meth c H locs ls hB hP hS hL)
theorem g_lcmp {x y : Int64} (hd : decode μ.2.1 pc = .ok (.lcmp, 1))  (k : G κ μ (pc + 1) L (.int (lg_cmp x y) :: S) M Q) : G κ μ pc L (.long y :: .long x :: S) M Q := fun p l e s m args below meth c H locs ls hB hP hS hL => W.lcmp hB.1 hB.2.1 hd  (k p l e s m args below meth c H locs ls hB hP hS hL)
theorem g_dup {v : Value} (hd : decode μ.2.1 pc = .ok (.dup, 1)) (hc : v.category = 1) (k : G κ μ (pc + 1) L (v :: v :: S) M Q) : G κ μ pc L (v :: S) M Q := fun p l e s m args below meth c H locs ls hB hP hS hL => lv_dup hB.1 hB.2.1 hd ((rv_cat κ v).trans hc) (k p l e s m args below meth c H locs ls hB hP hS hL)
theorem g_pop {v : Value} (hd : decode μ.2.1 pc = .ok (.pop, 1)) (hc : v.category = 1) (k : G κ μ (pc + 1) L (S) M Q) : G κ μ pc L (v :: S) M Q := fun p l e s m args below meth c H locs ls hB hP hS hL => lv_pop hB.1 hB.2.1 hd ((rv_cat κ v).trans hc) (k p l e s m args below meth c H locs ls hB hP hS hL)
theorem g_dup2 {v w : Value} (hd : decode μ.2.1 pc = .ok (.dup2, 1)) (hc : v.category = 1) (hc2 : w.category = 1) (k : G κ μ (pc + 1) L (v :: w :: v :: w :: S) M Q) : G κ μ pc L (v :: w :: S) M Q := fun p l e s m args below meth c H locs ls hB hP hS hL => lv_dup2_11 hB.1 hB.2.1 hd ((rv_cat κ v).trans hc) ((rv_cat κ w).trans hc2) (k p l e s m args below meth c H locs ls hB hP hS hL)
theorem g_if_eq {x : Int32} {off : Int} {tgt : Nat} (hd : decode μ.2.1 pc = .ok (.ifCond .eq off, 3)) (ht : (pc : Int) + off = (tgt : Int)) (k : (x = 0 → G κ μ tgt L S M Q) ∧ (¬ x = 0 → G κ μ (pc + 3) L S M Q)) : G κ μ pc L (.int x :: S) M Q := fun p l e s m args below meth c H locs ls hB hP hS hL => lv_if_eq hB.1 hB.2.1 hd ht (fun z => k.1 z p l e s m args below meth c H locs ls hB hP hS hL) (fun z => k.2 z p l e s m args below meth c H locs ls hB hP hS hL)
theorem g_if_lt {x : Int32} {off : Int} {tgt : Nat} (hd : decode μ.2.1 pc = .ok (.ifCond .lt off, 3)) (ht : (pc : Int) + off = (tgt : Int)) (k : (x < 0 → G κ μ tgt L S M Q) ∧ (¬ x < 0 → G κ μ (pc + 3) L S M Q)) : G κ μ pc L (.int x :: S) M Q := fun p l e s m args below meth c H locs ls hB hP hS hL => lv_if_lt hB.1 hB.2.1 hd ht (fun z => k.1 z p l e s m args below meth c H locs ls hB hP hS hL) (fun z => k.2 z p l e s m args below meth c H locs ls hB hP hS hL)
theorem g_if_ge {x : Int32} {off : Int} {tgt : Nat} (hd : decode μ.2.1 pc = .ok (.ifCond .ge off, 3)) (ht : (pc : Int) + off = (tgt : Int)) (k : (0 ≤ x → G κ μ tgt L S M Q) ∧ (¬ 0 ≤ x → G κ μ (pc + 3) L S M Q)) : G κ μ pc L (.int x :: S) M Q := fun p l e s m args below meth c H locs ls hB hP hS hL => lv_if_ge hB.1 hB.2.1 hd ht (fun z => k.1 z p l e s m args below meth c H locs ls hB hP hS hL) (fun z => k.2 z p l e s m args below meth c H locs ls hB hP hS hL)
theorem g_if_gt {x : Int32} {off : Int} {tgt : Nat} (hd : decode μ.2.1 pc = .ok (.ifCond .gt off, 3)) (ht : (pc : Int) + off = (tgt : Int)) (k : (0 < x → G κ μ tgt L S M Q) ∧ (¬ 0 < x → G κ μ (pc + 3) L S M Q)) : G κ μ pc L (.int x :: S) M Q := fun p l e s m args below meth c H locs ls hB hP hS hL => lv_if_gt hB.1 hB.2.1 hd ht (fun z => k.1 z p l e s m args below meth c H locs ls hB hP hS hL) (fun z => k.2 z p l e s m args below meth c H locs ls hB hP hS hL)
theorem g_if_le {x : Int32} {off : Int} {tgt : Nat} (hd : decode μ.2.1 pc = .ok (.ifCond .le off, 3)) (ht : (pc : Int) + off = (tgt : Int)) (k : (x ≤ 0 → G κ μ tgt L S M Q) ∧ (¬ x ≤ 0 → G κ μ (pc + 3) L S M Q)) : G κ μ pc L (.int x :: S) M Q := fun p l e s m args below meth c H locs ls hB hP hS hL => lv_if_le hB.1 hB.2.1 hd ht (fun z => k.1 z p l e s m args below meth c H locs ls hB hP hS hL) (fun z => k.2 z p l e s m args below meth c H locs ls hB hP hS hL)
theorem g_if_ne {x : Int32} {off : Int} {tgt : Nat} (hd : decode μ.2.1 pc = .ok (.ifCond .ne off, 3)) (ht : (pc : Int) + off = (tgt : Int)) (k : (x = 0 → G κ μ (pc + 3) L S M Q) ∧ (¬ x = 0 → G κ μ tgt L S M Q)) : G κ μ pc L (.int x :: S) M Q := fun p l e s m args below meth c H locs ls hB hP hS hL => lv_if_ne hB.1 hB.2.1 hd ht (fun z => k.2 z p l e s m args below meth c H locs ls hB hP hS hL) (fun z => k.1 z p l e s m args below meth c H locs ls hB hP hS hL)
theorem g_icmp_eq {x y : Int32} {off : Int} {tgt : Nat} (hd : decode μ.2.1 pc = .ok (.if_icmp .eq off, 3)) (ht : (pc : Int) + off = (tgt : Int)) (k : (x = y → G κ μ tgt L S M Q) ∧ (¬ x = y → G κ μ (pc + 3) L S M Q)) : G κ μ pc L (.int y :: .int x :: S) M Q := fun p l e s m args below meth c H locs ls hB hP hS hL => lv_icmp_eq hB.1 hB.2.1 hd ht (fun z => k.1 z p l e s m args below meth c H locs ls hB hP hS hL) (fun z => k.2 z p l e s m args below meth c H locs ls hB hP hS hL)
theorem g_icmp_lt {x y : Int32} {off : Int} {tgt : Nat} (hd : decode μ.2.1 pc = .ok (.if_icmp .lt off, 3)) (ht : (pc : Int) + off = (tgt : Int)) (k : (x < y → G κ μ tgt L S M Q) ∧ (¬ x < y → G κ μ (pc + 3) L S M Q)) : G κ μ pc L (.int y :: .int x :: S) M Q := fun p l e s m args below meth c H locs ls hB hP hS hL => lv_icmp_lt hB.1 hB.2.1 hd ht (fun z => k.1 z p l e s m args below meth c H locs ls hB hP hS hL) (fun z => k.2 z p l e s m args below meth c H locs ls hB hP hS hL)
theorem g_icmp_ge {x y : Int32} {off : Int} {tgt : Nat} (hd : decode μ.2.1 pc = .ok (.if_icmp .ge off, 3)) (ht : (pc : Int) + off = (tgt : Int)) (k : (y ≤ x → G κ μ tgt L S M Q) ∧ (¬ y ≤ x → G κ μ (pc + 3) L S M Q)) : G κ μ pc L (.int y :: .int x :: S) M Q := fun p l e s m args below meth c H locs ls hB hP hS hL => lv_icmp_ge hB.1 hB.2.1 hd ht (fun z => k.1 z p l e s m args below meth c H locs ls hB hP hS hL) (fun z => k.2 z p l e s m args below meth c H locs ls hB hP hS hL)
theorem g_icmp_gt {x y : Int32} {off : Int} {tgt : Nat} (hd : decode μ.2.1 pc = .ok (.if_icmp .gt off, 3)) (ht : (pc : Int) + off = (tgt : Int)) (k : (y < x → G κ μ tgt L S M Q) ∧ (¬ y < x → G κ μ (pc + 3) L S M Q)) : G κ μ pc L (.int y :: .int x :: S) M Q := fun p l e s m args below meth c H locs ls hB hP hS hL => lv_icmp_gt hB.1 hB.2.1 hd ht (fun z => k.1 z p l e s m args below meth c H locs ls hB hP hS hL) (fun z => k.2 z p l e s m args below meth c H locs ls hB hP hS hL)
theorem g_icmp_le {x y : Int32} {off : Int} {tgt : Nat} (hd : decode μ.2.1 pc = .ok (.if_icmp .le off, 3)) (ht : (pc : Int) + off = (tgt : Int)) (k : (x ≤ y → G κ μ tgt L S M Q) ∧ (¬ x ≤ y → G κ μ (pc + 3) L S M Q)) : G κ μ pc L (.int y :: .int x :: S) M Q := fun p l e s m args below meth c H locs ls hB hP hS hL => lv_icmp_le hB.1 hB.2.1 hd ht (fun z => k.1 z p l e s m args below meth c H locs ls hB hP hS hL) (fun z => k.2 z p l e s m args below meth c H locs ls hB hP hS hL)
theorem g_icmp_ne {x y : Int32} {off : Int} {tgt : Nat} (hd : decode μ.2.1 pc = .ok (.if_icmp .ne off, 3)) (ht : (pc : Int) + off = (tgt : Int)) (k : (x = y → G κ μ (pc + 3) L S M Q) ∧ (¬ x = y → G κ μ tgt L S M Q)) : G κ μ pc L (.int y :: .int x :: S) M Q := fun p l e s m args below meth c H locs ls hB hP hS hL => lv_icmp_ne hB.1 hB.2.1 hd ht (fun z => k.2 z p l e s m args below meth c H locs ls hB hP hS hL) (fun z => k.1 z p l e s m args below meth c H locs ls hB hP hS hL)
theorem g_goto {off : Int} {tgt : Nat} (hd : decode μ.2.1 pc = .ok (.goto off, 3)) (ht : (pc : Int) + off = (tgt : Int)) (k : G κ μ tgt L S M Q) : G κ μ pc L S M Q := fun p l e s m args below meth c H locs ls hB hP hS hL => lv_goto hB.1 hB.2.1 hd ht (k p l e s m args below meth c H locs ls hB hP hS hL)
theorem g_tabOut {dflt lo hi : Int} {offs : Array Int} {len : Nat} {x : Int32} {tgt : Nat} (hd : decode μ.2.1 pc = .ok (.tableswitch dflt lo hi offs, len)) (h : x.toInt < lo ∨ hi < x.toInt) (ht : (pc : Int) + dflt = (tgt : Int)) (k : G κ μ tgt L S M Q) : G κ μ pc L (.int x :: S) M Q := fun p l e s m args below meth c H locs ls hB hP hS hL => lv_tableOut hB.1 hB.2.1 hd h ht (k p l e s m args below meth c H locs ls hB hP hS hL)
theorem g_tabIn {dflt lo hi : Int} {offs : Array Int} {len : Nat} {x : Int32} {off : Int} {tgt : Nat} (hd : decode μ.2.1 pc = .ok (.tableswitch dflt lo hi offs, len)) (h1 : ¬ x.toInt < lo) (h2 : ¬ hi < x.toInt) (ho : offs[(x.toInt - lo).toNat]? = some off) (ht : (pc : Int) + off = (tgt : Int)) (k : G κ μ tgt L S M Q) : G κ μ pc L (.int x :: S) M Q := fun p l e s m args below meth c H locs ls hB hP hS hL => lv_tableIn hB.1 hB.2.1 hd h1 h2 ho ht (k p l e s m args below meth c H locs ls hB hP hS hL)
theorem g_look {dflt : Int} {ps : Array (Int × Int)} {len : Nat} {x : Int32} {off : Int} {tgt : Nat} (hd : decode μ.2.1 pc = .ok (.lookupswitch dflt ps, len)) (hp : (ps.toList.zip (ps.toList.drop 1)).all (fun (a, next) => a.1 < next.1) = true) (ho : Op.lookupswitch.offset ps.toList dflt x.toInt = off) (ht : (pc : Int) + off = (tgt : Int)) (k : G κ μ tgt L S M Q) : G κ μ pc L (.int x :: S) M Q := fun p l e s m args below meth c H locs ls hB hP hS hL => lv_lookup hB.1 hB.2.1 hd hp ho ht (k p l e s m args below meth c H locs ls hB hP hS hL)
theorem g_ldc {index : Nat} {v : Int32} (hd : decode μ.2.1 pc = .ok (.ldc index, 2)) (hw : Cond.constant μ.1.cls index v ∈ tbG) (k : G κ μ (pc + 2) L (.int v :: S) M Q) : G κ μ pc L S M Q := fun p l e s m args below meth c H locs ls hB hP hS hL => lv_ldc hB.1 hB.2.1 hB.2.2.2.2.1 (hB.2.2.2.2.2.1 _ hw) hd (k p l e s m args below meth c H locs ls hB hP hS hL)
theorem g_ldcw {index : Nat} {v : Int32} (hd : decode μ.2.1 pc = .ok (.ldc_w index, 3)) (hw : Cond.constant μ.1.cls index v ∈ tbG) (k : G κ μ (pc + 3) L (.int v :: S) M Q) : G κ μ pc L S M Q := fun p l e s m args below meth c H locs ls hB hP hS hL => lv_ldcw hB.1 hB.2.1 hB.2.2.2.2.1 (hB.2.2.2.2.2.1 _ hw) hd (k p l e s m args below meth c H locs ls hB hP hS hL)
theorem g_ldc2 {index : Nat} {v : Int64} (hd : decode μ.2.1 pc = .ok (.ldc2_w index, 3)) (hw : Cond.constantLong μ.1.cls index v ∈ tbG) (k : G κ μ (pc + 3) L (.long v :: S) M Q) : G κ μ pc L S M Q := fun p l e s m args below meth c H locs ls hB hP hS hL => lv_ldc2 hB.1 hB.2.1 hB.2.2.2.2.1 (hB.2.2.2.2.2.1 _ hw) hd (k p l e s m args below meth c H locs ls hB hP hS hL)
end GRows
