/-! What the constructors leave: blocks of cells at addresses u -/
def M0 : MM := fun c => bif c == 0 then (fun k => bif k == 12 then -1 else 0) else bif c == 11 then (fun k => bif k == 4 then -1 else 0) else bif c == 119 then (fun k => bif k == 9 then -1 else 0) else fun _ => 0
theorem M0_z {c : Nat} (h0 : c ≠ 0) (h1 : c ≠ 11) (h2 : c ≠ 119) : M0 c = fun _ => 0 := by
  unfold M0
  rw [beq_eq_false_iff_ne.mpr h0, beq_eq_false_iff_ne.mpr h1, beq_eq_false_iff_ne.mpr h2]
  rfl
abbrev gT : Type := ClassId × ClassId × ClassId
def tYs (τ : gT) : List (ClassId × FieldType) := [(τ.1, .int), (τ.2.1, .boolean), (τ.2.2, .object RX8)]
def fldT (u : Nat → Nat) (ci c k : Nat) : Value := bif isR ci k then .ref (u (rtc ci c k)) else .int (M0 c k)
def eT (τ : gT) (u : Nat → Nat) (c : Nat) : va_E := match shp c with
  | (0, ci) => .inr (ci, (List.range (nfL.getD ci 0)).map (fldT u ci c))
  | (1, n) => .inl (τ.1, n, .inl (M0 c))
  | (2, n) => .inl (τ.2.1, n, .inl (M0 c))
  | (_, n) => .inl (τ.2.2, n, .inr (.inr (.inr (.inr (fun j => if j < n then some (u (rac c j)) else none)))))
def blk (τ : gT) (u : Nat → Nat) (c0 n : Nat) : va_W := (List.range n).map (fun i => (u (c0 + i), eT τ u (c0 + i)))
/-- what a cell refers to lies between lo and hi -/
def inB (lo hi c : Nat) : Bool := match shp c with
  | (0, ci) => (List.range (nfL.getD ci 0)).all (fun k => !isR ci k || (Nat.ble lo (rtc ci c k) && Nat.blt (rtc ci c k) hi))
  | (1, _) => true
  | (2, _) => true
  | (_, n) => (List.range n).all (fun j => Nat.ble lo (rac c j) && Nat.blt (rac c j) hi)
def clB (lo hi c0 n : Nat) : Bool := (List.range n).all (fun i => inB lo hi (c0 + i))
theorem eT_congr {τ : gT} {u u' : Nat → Nat} {lo hi c : Nat} (h : inB lo hi c = true) (hu : ∀ d, lo ≤ d → d < hi → u d = u' d) : eT τ u c = eT τ u' c := by
  unfold inB at h
  unfold eT
  split
  · rename_i ci hs
    rw [hs] at h
    congr 2
    apply List.map_congr_left
    intro k hk
    have := List.all_eq_true.mp h k hk
    unfold fldT
    cases hr : isR ci k with
    | false => rfl
    | true =>
      simp only [hr, Bool.not_true, Bool.false_or, Bool.and_eq_true, Nat.ble_eq, Nat.blt_eq] at this
      rw [hu _ this.1 this.2]
  · rfl
  · rfl
  · rename_i a n h1 h2 h3 hs
    rw [hs] at h
    have h4 : ((List.range n).all (fun j => Nat.ble lo (rac c j) && Nat.blt (rac c j) hi)) = true := by
      split at h
      · rename_i heq; cases heq; exact absurd rfl h1
      · rename_i heq; cases heq; exact absurd rfl h2
      · rename_i heq; cases heq; exact absurd rfl h3
      · rename_i heq; cases heq; exact h
    have hf : (fun j => if j < n then some (u (rac c j)) else none) = (fun j => if j < n then some (u' (rac c j)) else none) := by
      funext j
      by_cases hj : j < n
      · simp only [hj, if_true]
        have := List.all_eq_true.mp h4 j (List.mem_range.mpr hj)
        simp only [Bool.and_eq_true, Nat.ble_eq, Nat.blt_eq] at this
        rw [hu _ this.1 this.2]
      · simp [hj]
    rw [hf]
theorem blk_congr {τ : gT} {u u' : Nat → Nat} {lo hi c0 n : Nat} (h : clB lo hi c0 n = true) (h1 : lo ≤ c0) (h2 : c0 + n ≤ hi) (hu : ∀ d, lo ≤ d → d < hi → u d = u' d) : blk τ u c0 n = blk τ u' c0 n := by
  unfold blk
  apply List.map_congr_left
  intro i hi
  have hin := List.all_eq_true.mp h i hi
  have hlt := List.mem_range.mp hi
  rw [hu (c0 + i) (by omega) (by omega), eT_congr hin hu]
theorem blk_add (τ : gT) (u : Nat → Nat) (c0 n m : Nat) : blk τ u c0 (n + m) = blk τ u c0 n ++ blk τ u (c0 + n) m := by
  unfold blk
  rw [List.range_add, List.map_append, List.map_map]
  congr 1
  apply List.map_congr_left
  intro i _
  simp only [Function.comp, Nat.add_assoc]
theorem blk_one (τ : gT) (u : Nat → Nat) (c0 n : Nat) : blk τ u c0 (n + 1) = (u c0, eT τ u c0) :: blk τ u (c0 + 1) n := by
  rw [Nat.add_comm n 1, blk_add]
  rfl
theorem blk_len (τ : gT) (u : Nat → Nat) (c0 n : Nat) : (blk τ u c0 n).length = n := by simp [blk]
theorem blk_at (τ : gT) (u : Nat → Nat) (c0 : Nat) {n i : Nat} (h : i < n) : (blk τ u c0 n)[i]? = some (u (c0 + i), eT τ u (c0 + i)) := by
  simp [blk, List.getElem?_map, List.getElem?_range h]
/-- two blocks side by side -/
theorem blk_glue {τ : gT} {u u1 u' : Nat → Nat} {a k c0 n : Nat} (hc : a + k = c0) (h1 : clB a c0 a k = true) (h2 : clB c0 (c0 + n) c0 n = true) (hu : ∀ d, d < c0 → u' d = u d) (hu1 : ∀ d, c0 ≤ d → u' d = u1 d) : blk τ u a k ++ blk τ u1 c0 n = blk τ u' a (k + n) := by
  rw [blk_add, hc]
  congr 1
  · exact blk_congr h1 (Nat.le_refl _) (by omega) (fun d _ hd => (hu d hd).symm)
  · exact blk_congr h2 (Nat.le_refl _) (Nat.le_refl _) (fun d hd _ => (hu1 d hd).symm)
/-- what a constructor leaves: a block of n cells, from the number c0 on -/
def PbM (D : va_G) (τ : gT) (A : Nat → Prop) (c0 n h0 : Nat) (t : State) : Prop := ∃ u : Nat → Nat, u c0 = h0 ∧ va_K D classes (tYs τ) t ∧ va_P D classes (blk τ u c0 n) t.heap ∧ va_D A (blk τ u c0 n)
/-- a constructor's contract -/
def Ct (D : va_G) (τ : gT) (Z : State → Prop) (μ : gM) (R : Room) (mc ms ci : Nat) (fs : List Value) (c0 n : Nat) : Prop :=
  ∀ (l : Launch) (h0 sz : Nat), Met l μ.1 (wsM μ) R (va_Pc [.ref h0] (fun U => U.heap.size = sz ∧ va_P D classes [(h0, .inr (ci, fs))] U.heap ∧ va_K D classes (tYs τ) U ∧ va_D (fun _ => True) [(h0, .inr (ci, fs))] ∧ Z U)) (va_Qv (fun _ : Unit => True) (fun _ t => PbM D τ (va_A [(h0, .inr (ci, fs))] sz) c0 n h0 t) (va_A [(h0, .inr (ci, fs))] sz)) mc ms (va_A [(h0, .inr (ci, fs))] sz)
section Blk
variable {D : va_G} {τ : gT} {A : Nat → Prop} {sz : Nat} {Z : State → Prop} {μ : gM} {R : Room} {mc ms : Nat} {PB : State → Prop} {pc : Nat} {L S : List Value} {ws : va_W} {ce sl : Nat}
theorem KJ.tys {tys tys' : List (ClassId × FieldType)} (h : ∀ s, va_K D classes tys s → va_K D classes tys' s) (k : KJ D A sz Z μ R mc ms PB pc L S tys' ws ce sl) : KJ D A sz Z μ R mc ms PB pc L S tys ws ce sl :=
  fun p l e s m args below meth c H locs ls hB hZ hz hK hP hD hS hL => k p l e s m args below meth c H locs ls hB hZ hz (h s hK) hP hD hS hL
theorem KJ.ty1 {cA : ClassId} {ty : FieldType} {pr : ClassId → Prop} (hpr : ∀ s, va_K D classes (tYs τ ++ [(cA, ty)]) s → pr cA) (k : pr cA → KJ D A sz Z μ R mc ms PB pc L S (tYs τ) ws ce sl) : KJ D A sz Z μ R mc ms PB pc L S (tYs τ ++ [(cA, ty)]) ws ce sl :=
  fun p l e s m args below meth c H locs ls hB hZ hz hK hP hD hS hL => k (hpr s hK) p l e s m args below meth c H locs ls hB hZ hz (hK.sub (tys' := tYs τ) [0, 1, 2] rfl) hP hD hS hL
theorem k_newI {n : Nat} (hA : ∀ q, sz ≤ q → A q) (hd : decode μ.2.1 pc = .ok (.newarray .int, 2)) (hw : Cond.arrayClass .int ∈ tbG) (hn : n ≤ 3000) (hc : ce + 1 ≤ R.cells) (hs : sl + n ≤ R.slots) (k : ∀ (q : Nat), KJ D A sz Z μ R mc ms PB (pc + 2) L (.ref q :: S) (tYs τ) (ws ++ [(q, .inl (τ.1, n, .inl (fun _ => 0)))]) (ce + 1) (sl + n)) : KJ D A sz Z μ R mc ms PB pc L (.int (nI n) :: S) (tYs τ) ws ce sl := by
  refine k_newi hA hd hw hn hc hs (fun q cA => ?_)
  refine KJ.ty1 (pr := fun cA => cA = τ.1) (fun s hK => ?_) (fun h => ?_)
  · have h1 : s.vm.findClass ("[" ++ FieldType.int.toString) = some cA := (hK.2 3 (cA, .int) rfl).2
    have h2 : s.vm.findClass ("[" ++ FieldType.int.toString) = some τ.1 := (hK.2 0 (τ.1, .int) rfl).2
    exact Option.some.inj (h1.symm.trans h2)
  · subst h
    exact k q
theorem k_newZ {n : Nat} (hA : ∀ q, sz ≤ q → A q) (hd : decode μ.2.1 pc = .ok (.newarray .boolean, 2)) (hw : Cond.arrayClass .boolean ∈ tbG) (hn : n ≤ 3000) (hc : ce + 1 ≤ R.cells) (hs : sl + n ≤ R.slots) (k : ∀ (q : Nat), KJ D A sz Z μ R mc ms PB (pc + 2) L (.ref q :: S) (tYs τ) (ws ++ [(q, .inl (τ.2.1, n, .inl (fun _ => 0)))]) (ce + 1) (sl + n)) : KJ D A sz Z μ R mc ms PB pc L (.int (nI n) :: S) (tYs τ) ws ce sl := by
  refine k_newz hA hd hw hn hc hs (fun q cA => ?_)
  refine KJ.ty1 (pr := fun cA => cA = τ.2.1) (fun s hK => ?_) (fun h => ?_)
  · have h1 : s.vm.findClass ("[" ++ FieldType.boolean.toString) = some cA := (hK.2 3 (cA, .boolean) rfl).2
    have h2 : s.vm.findClass ("[" ++ FieldType.boolean.toString) = some τ.2.1 := (hK.2 1 (τ.2.1, .boolean) rfl).2
    exact Option.some.inj (h1.symm.trans h2)
  · subst h
    exact k q
/-- a new row of States -/
theorem k_newQ {n index : Nat} (hA : ∀ q, sz ≤ q → A q) (hd : decode μ.2.1 pc = .ok (.anewarray index, 3)) (hl : Cond.classLink μ.1.cls index RX8 ∈ tbG) (hw : ∀ s, Z s → va_AO RX8 s) (hn : n ≤ 3000) (hc : ce + 1 ≤ R.cells) (hs : sl + n ≤ R.slots) (k : ∀ (q : Nat), KJ D A sz Z μ R mc ms PB (pc + 3) L (.ref q :: S) (tYs τ) (ws ++ [(q, .inl (τ.2.2, n, .inr (.inr (.inr (.inr (fun _ => none))))))]) (ce + 1) (sl + n)) : KJ D A sz Z μ R mc ms PB pc L (.int (nI n) :: S) (tYs τ) ws ce sl := by
  intro p l e s m args below meth c H locs ls hB hZ hz hK hP hD hS hL
  refine va_newq (C := RX8) hB.1 hB.2.1 hB.2.2.2.2.1 (hB.2.2.2.2.2.1 _ hl) (hw s hZ) hK hP hD hS (fun q hq => hA q (by omega)) (nI_pos (by omega)) (nI_clamp (by omega)) (by omega) hc hs hd (fun q cA H1 hK1 hP1 hD1 hS1 => ?_)
  have hcA : cA = τ.2.2 := by
    obtain ⟨-, -, -, -, -, h1⟩ := (hK1.2 3 (cA, .object RX8) rfl).2
    obtain ⟨-, -, -, -, -, h2⟩ := (hK1.2 2 (τ.2.2, .object RX8) rfl).2
    exact Option.some.inj (h1.symm.trans h2)
  subst hcA
  exact k q p l e s m args below meth c H1 locs ls hB hZ hz hK hP1 hD1 hS1 hL
end Blk
