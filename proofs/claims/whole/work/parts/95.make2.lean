/-! A constructor's walk: ws is what is made so far, by addresses; PB is what must hold at its end -/
def mkL (ls : Array Slot) (n : Nat) (L : List Value) : Prop := ls.size = n ∧ lv_wf ls ∧ ∀ (i : Nat) (v : Value), L[i]? = some v → v ≠ .null → ls[i]? = some (.val v)
def mkB (μ : gM) (p : Program) (s : State) (m : MethodId) (args : Array Value) (meth : Method) (c : Code) : Prop :=
  p.tables.exec = Jvm.exec ∧ c.code = μ.2.1 ∧ meth.sig.returnType = none ∧ c.maxLocals = μ.2.2.1 ∧ s.vm.findClass μ.1.cls = some m.cls ∧ (∀ w ∈ tbG, w.before args s = true) ∧ meth.locks = false ∧ meth.name = "<init>"
def KJ (D : va_G) (A : Nat → Prop) (sz : Nat) (Z : State → Prop) (μ : gM) (R : Room) (mc ms : Nat) (PB : State → Prop) (pc : Nat) (L S : List Value) (tys : List (ClassId × FieldType)) (ws : va_W) (ce sl : Nat) : Prop :=
  ∀ (p : Program) (l : Launch) (e : Env) (s : State) (m : MethodId) (args : Array Value) (below : List Frame) (meth : Method) (c : Code) (H : Heap) (locs : List Loc) (ls : Array Slot), mkB μ p s m args meth c → Z s → s.heap.size = sz → va_K D classes tys s → va_P D classes ws H → va_D A ws → va_S A s.heap H locs → mkL ls μ.2.2.1 L →
    W p l e R s m args below meth c H locs ce sl (MQ below (va_Qv (fun _ : Unit => True) (fun _ t => PB t) A) args s mc ms A) (F0 m pc ls S)
section Make2
variable {D : va_G} {A : Nat → Prop} {sz : Nat} {Z : State → Prop} {μ : gM} {R : Room} {mc ms : Nat} {PB : State → Prop} {pc : Nat} {L S : List Value} {tys : List (ClassId × FieldType)} {ws : va_W} {ce sl : Nat}
theorem k_aload {k0 : Fin 4} {i x : Nat} (hd : decode μ.2.1 pc = .ok (.aload_n k0, 1)) (hi : (k0 : Nat) = i) (hl : L[i]? = some (.ref x)) (k : KJ D A sz Z μ R mc ms PB (pc + 1) L (.ref x :: S) tys ws ce sl) : KJ D A sz Z μ R mc ms PB pc L S tys ws ce sl :=
  fun p l e s m args below meth c H locs ls hB hZ hz hK hP hD hS hL => lv_aload_n hB.1 hB.2.1 hd hi (hL.2.2 i _ hl (by simp)) (k p l e s m args below meth c H locs ls hB hZ hz hK hP hD hS hL)
theorem k_iconst {n : Int} {v : Int32} (hd : decode μ.2.1 pc = .ok (.iconst n, 1)) (hv : Int32.ofInt n = v) (k : KJ D A sz Z μ R mc ms PB (pc + 1) L (.int v :: S) tys ws ce sl) : KJ D A sz Z μ R mc ms PB pc L S tys ws ce sl :=
  fun p l e s m args below meth c H locs ls hB hZ hz hK hP hD hS hL => lv_iconst hB.1 hB.2.1 hd hv (k p l e s m args below meth c H locs ls hB hZ hz hK hP hD hS hL)
theorem k_bipush {n : Int} {v : Int32} (hd : decode μ.2.1 pc = .ok (.bipush n, 2)) (hv : (Int8.ofInt n).toInt32 = v) (k : KJ D A sz Z μ R mc ms PB (pc + 2) L (.int v :: S) tys ws ce sl) : KJ D A sz Z μ R mc ms PB pc L S tys ws ce sl :=
  fun p l e s m args below meth c H locs ls hB hZ hz hK hP hD hS hL => lv_bipush hB.1 hB.2.1 hd hv (k p l e s m args below meth c H locs ls hB hZ hz hK hP hD hS hL)
theorem k_sipush {n : Int} {v : Int32} (hd : decode μ.2.1 pc = .ok (.sipush n, 3)) (hv : (Int16.ofInt n).toInt32 = v) (k : KJ D A sz Z μ R mc ms PB (pc + 3) L (.int v :: S) tys ws ce sl) : KJ D A sz Z μ R mc ms PB pc L S tys ws ce sl :=
  fun p l e s m args below meth c H locs ls hB hZ hz hK hP hD hS hL => lv_sipush hB.1 hB.2.1 hd hv (k p l e s m args below meth c H locs ls hB hZ hz hK hP hD hS hL)
/-- a new row of ints -/
theorem k_newi {n : Nat} (hA : ∀ q, sz ≤ q → A q) (hd : decode μ.2.1 pc = .ok (.newarray .int, 2)) (hw : Cond.arrayClass .int ∈ tbG) (hn : n ≤ 3000) (hc : ce + 1 ≤ R.cells) (hs : sl + n ≤ R.slots) (k : ∀ (q : Nat) (cA : ClassId), KJ D A sz Z μ R mc ms PB (pc + 2) L (.ref q :: S) (tys ++ [(cA, .int)]) (ws ++ [(q, .inl (cA, n, .inl (fun _ => 0)))]) (ce + 1) (sl + n)) : KJ D A sz Z μ R mc ms PB pc L (.int (nI n) :: S) tys ws ce sl := by
  intro p l e s m args below meth c H locs ls hB hZ hz hK hP hD hS hL
  refine va_newa (atype := .int) (ty := .int) (a0 := (n, .inl (fun _ => 0))) hB.1 hB.2.1 (hB.2.2.2.2.2.1 _ hw) rfl hK hP hD hS (fun q hq => hA q (by omega)) (fun cA => rfl) (nI_pos (by omega)) (nI_clamp (by omega)) ?_ hc hs hd (fun q cA H1 hK1 hP1 hD1 hS1 => k q cA p l e s m args below meth c H1 locs ls hB hZ hz hK1 hP1 hD1 hS1 hL)
  show n * 4 ≤ _
  omega
/-- a field that is final, set by the constructor -/
theorem k_putF {a ci k q0 index N : Nat} {C : String} {T : u_T} {fs : List Value} {v : Value} {ty : FieldType} (hd : decode μ.2.1 pc = .ok (.putfield index, 3)) (he : ws[q0]? = some (a, .inr (ci, fs))) (hc : classes[ci]? = some (C, T, N)) (hin : ∀ w ∈ u_ws C T N, w ∈ tbG) (ty0 : Nat → FieldType) (hty : ∀ k, k < N → parseFieldDescriptor (T k).2.2.1 = some (ty0 k)) (hnm : ∀ a, a < N → ∀ b, b < N → a ≠ b → (T a).2.1 ≠ (T b).2.1) (hk : k < N) (hl : Cond.fieldLink μ.1.cls index (T k).1 (T k).2.1 (T k).2.2.1 ∈ tbG) (hfin : (T k).2.2.2 = true) (hdecl : (T k).1 = μ.1.cls) (hdd : parseFieldDescriptor (T k).2.2.1 = some ty) (hn : narrow ty v = v) (hfit : fits ty v = true) (hlen : k < fs.length) {ws' : va_W} (hws : ws.set q0 (a, .inr (ci, fs.set k v)) = ws') (kk : KJ D A sz Z μ R mc ms PB (pc + 3) L S tys ws' ce sl) : KJ D A sz Z μ R mc ms PB pc L (v :: .ref a :: S) tys ws ce sl := by
  subst hws
  intro p l e s m args below meth c H locs ls hB hZ hz hK hP hD hS hL
  exact va_putF hB.1 hB.2.1 hB.2.2.2.2.2.1 hin ty0 hty hnm hB.2.2.2.2.1 hK hP hD hS q0 he hc k hk (hB.2.2.2.2.2.1 _ hl) (fun _ h => h) hfin hB.2.2.2.2.2.2.2 hdecl hdd hn hfit hlen hd (fun H1 locs1 hP1 hD1 hS1 => kk p l e s m args below meth c H1 locs1 ls hB hZ hz hK hP1 hD1 hS1 hL)
/-- a field that isn't -/
theorem k_put {a ci k q0 index N : Nat} {C : String} {T : u_T} {fs : List Value} {v : Value} {ty : FieldType} (hd : decode μ.2.1 pc = .ok (.putfield index, 3)) (he : ws[q0]? = some (a, .inr (ci, fs))) (hc : classes[ci]? = some (C, T, N)) (hin : ∀ w ∈ u_ws C T N, w ∈ tbG) (ty0 : Nat → FieldType) (hty : ∀ k, k < N → parseFieldDescriptor (T k).2.2.1 = some (ty0 k)) (hnm : ∀ a, a < N → ∀ b, b < N → a ≠ b → (T a).2.1 ≠ (T b).2.1) (hk : k < N) (hl : Cond.fieldLink μ.1.cls index (T k).1 (T k).2.1 (T k).2.2.1 ∈ tbG) (hfin : (T k).2.2.2 = false) (hdd : parseFieldDescriptor (T k).2.2.1 = some ty) (hn : narrow ty v = v) (hfit : fits ty v = true) (hlen : k < fs.length) {ws' : va_W} (hws : ws.set q0 (a, .inr (ci, fs.set k v)) = ws') (kk : KJ D A sz Z μ R mc ms PB (pc + 3) L S tys ws' ce sl) : KJ D A sz Z μ R mc ms PB pc L (v :: .ref a :: S) tys ws ce sl := by
  subst hws
  intro p l e s m args below meth c H locs ls hB hZ hz hK hP hD hS hL
  exact va_put hB.1 hB.2.1 hB.2.2.2.2.2.1 hin ty0 hty hnm hB.2.2.2.2.1 hK hP hD hS q0 he hc k hk (hB.2.2.2.2.2.1 _ hl) (fun _ h => h) hfin hdd hn hfit hlen hd (fun H1 locs1 hP1 hD1 hS1 => kk p l e s m args below meth c H1 locs1 ls hB hZ hz hK hP1 hD1 hS1 hL)
/-- the end -/
theorem k_vret (hd : decode μ.2.1 pc = .ok (.return_, 1)) (hc : ce = mc) (hs : sl = ms) (hq : ∀ t : State, va_K D classes tys t → va_P D classes ws t.heap → va_D A ws → PB t) : KJ D A sz Z μ R mc ms PB pc L [] tys ws ce sl := by
  subst hc
  subst hs
  intro p l e s m args below meth c H locs ls hB hZ hz hK hP hD hS hL
  exact W.vret hB.1 hB.2.1 hB.2.2.1 (fun t ht hW => ⟨⟨(), rfl, trivial, hq t (va_K.moved hW.alike hK) (by rw [ht]; exact hP) hD⟩, hS.F ht⟩) hS.2.2 hd (hlocks := hB.2.2.2.2.2.2.1)
end Make2
