section Make3
variable {D : va_G} {A : Nat → Prop} {sz : Nat} {Z : State → Prop} {μ : gM} {R : Room} {mc ms : Nat} {PB : State → Prop} {pc : Nat} {L S : List Value} {tys : List (ClassId × FieldType)} {ws : va_W} {ce sl : Nat}
theorem wO2 : Cond.instanceMethod objectInit ∈ tbG := tbG_t (List.mem_of_getElem? (i := 22) (by decide +kernel)) (by decide +kernel)
theorem wO3 : Cond.code objectInit ⟨#[0xb1]⟩ 1 none ∈ tbG := tbG_t (List.mem_of_getElem? (i := 23) (by decide +kernel)) (by decide +kernel)
/-- Object's own constructor -/
theorem k_obj {x index : Nat} (hd : decode μ.2.1 pc = .ok (.invokespecial index, 3)) (h1 : Cond.methodLink μ.1.cls index objectInit ∈ tbG) (hf : 1 ≤ R.frames) (hlo : 40 ≤ R.locals) (k : KJ D A sz Z μ R mc ms PB (pc + 3) L [] tys ws ce sl) : KJ D A sz Z μ R mc ms PB pc L [.ref x] tys ws ce sl := by
  intro p l e s m args below meth c H locs ls hB hZ hz hK hP hD hS hL
  refine W.objInit hB.1 hB.2.1 hB.2.2.2.2.1 (hB.2.2.2.2.2.1 _ h1) (hB.2.2.2.2.2.1 _ wO2) (hB.2.2.2.2.2.1 _ wO3) rfl (by rw [hB.2.2.2.1]; exact hL.1) rfl hd (by omega) (Nat.le_trans (m := 40) (Nat.le_of_ble_eq_true rfl) hlo) ?_
  exact W.eq (g2 := F0 m (pc + 3) ls []) rfl (k p l e s m args below meth c H locs ls hB hZ hz hK hP hD hS hL)
/-- a new row of booleans -/
theorem k_newz {n : Nat} (hA : ∀ q, sz ≤ q → A q) (hd : decode μ.2.1 pc = .ok (.newarray .boolean, 2)) (hw : Cond.arrayClass .boolean ∈ tbG) (hn : n ≤ 3000) (hc : ce + 1 ≤ R.cells) (hs : sl + n ≤ R.slots) (k : ∀ (q : Nat) (cA : ClassId), KJ D A sz Z μ R mc ms PB (pc + 2) L (.ref q :: S) (tys ++ [(cA, .boolean)]) (ws ++ [(q, .inl (cA, n, .inl (fun _ => 0)))]) (ce + 1) (sl + n)) : KJ D A sz Z μ R mc ms PB pc L (.int (nI n) :: S) tys ws ce sl := by
  intro p l e s m args below meth c H locs ls hB hZ hz hK hP hD hS hL
  refine va_newa (atype := .boolean) (ty := .boolean) (a0 := (n, .inl (fun _ => 0))) hB.1 hB.2.1 (hB.2.2.2.2.2.1 _ hw) rfl hK hP hD hS (fun q hq => hA q (by omega)) (fun cA => rfl) (nI_pos (by omega)) (nI_clamp (by omega)) ?_ hc hs hd (fun q cA H1 hK1 hP1 hD1 hS1 => k q cA p l e s m args below meth c H1 locs ls hB hZ hz hK1 hP1 hD1 hS1 hL)
  show n * 1 ≤ _
  omega
/-- a constructor's contract out of its walk -/
theorem k_entry {h0 : Nat} {e0 : va_E} {n0 : Nat} (hy : plainName μ.1.cls = true) (hret : μ.2.2.2.1 = none) (hin : μ.1.name = "<init>") (hlen : 1 ≤ μ.2.2.1) (hL : .ref h0 :: List.replicate n0 .null = L)
    (k : KJ D (va_A [(h0, e0)] sz) sz Z μ R mc ms PB 0 L [] tys [(h0, e0)] 0 0) (l : Launch) : Met l μ.1 (wsM μ) R (va_Pc [.ref h0] (fun U => U.heap.size = sz ∧ va_P D classes [(h0, e0)] U.heap ∧ va_K D classes tys U ∧ va_D (fun _ => True) [(h0, e0)] ∧ Z U)) (va_Qv (fun _ : Unit => True) (fun _ t => PB t) (va_A [(h0, e0)] sz)) mc ms (va_A [(h0, e0)] sz) := by
  refine Met.ofW (cc := μ.2.1) (maxL := μ.2.2.1) (ret := μ.2.2.2.1) (ws' := tbG) hy rfl ?_
  intro p e s m args below meth c s₁ B hml hv
  obtain ⟨rfl, hsz, hP, hK, hD0, hZ⟩ := hv
  have hts := atoms_spec (ws := wsM μ) B.pre
  have hl := lv_entry ([.ref h0]) (n := μ.2.2.1) hlen
  rw [lg_entry_eq]
  generalize (lg_sl ([.ref h0]) ++ List.replicate (μ.2.2.1 - (lg_sl ([.ref h0])).length) Slot.unset).toArray = ls at hl ⊢
  subst hsz
  refine k p l e s m _ below meth c s.heap [] ls ⟨B.exec, B.bytes, B.returns.trans hret, hml, findClass_of_methodNamed B.named, fun w hw => hts w (List.mem_cons_of_mem _ hw), B.notSynchronized, (name_of_methodNamed B.named B.method).1.trans hin⟩ hZ rfl hK hP (hD0.self (sz := s.heap.size)) va_S.rf ⟨hl.1, hl.2.1, fun i v h1 h2 => ?_⟩
  subst hL
  cases i with
  | zero =>
    have : v = .ref h0 := by simpa using h1.symm
    subst this
    have hl : lv_has ls μ.2.2.1 [(0, .ref h0)] := hl
    exact lv_at hl 0 rfl
  | succ i =>
    rw [List.getElem?_cons_succ, List.getElem?_replicate] at h1
    split at h1
    · cases h1; exact absurd rfl h2
    · cases h1
end Make3
